/-! the book as numbers, in the places of the reference: scalars 2 children, 11 pictures, 12 span, 13 low, 14 high, 15 last, 16 choice, 18 pages laid; rows 0 room, 1 consent, 3 kind, 4 worth, 5 size, 6 faces, 7 who, 8 x, 9 y, 10 half, 17 pages -/
abbrev Bk : Type := (Nat → Nat) × (Nat → Nat → Nat)
def mI : List Nat := [2, 11, 12, 13, 14, 15, 16, 18]
def mR : List Nat := [0, 1, 3, 4, 5, 6, 7, 8, 9, 10, 17]
def RM (I : Nat → Int32) (R : Nat → Nat → Int32) (B : Bk) : Prop := (∀ j ∈ mI, I j = nI (B.1 j)) ∧ ∀ j ∈ mR, ∀ i, R j i = nI (B.2 j i)
section
variable {I : Nat → Int32} {R : Nat → Nat → Int32} {B : Bk}
theorem RM.i2 (h : RM I R B) : I 2 = nI (B.1 2) := h.1 2 (by decide)
theorem RM.i11 (h : RM I R B) : I 11 = nI (B.1 11) := h.1 11 (by decide)
theorem RM.i12 (h : RM I R B) : I 12 = nI (B.1 12) := h.1 12 (by decide)
theorem RM.i13 (h : RM I R B) : I 13 = nI (B.1 13) := h.1 13 (by decide)
theorem RM.i14 (h : RM I R B) : I 14 = nI (B.1 14) := h.1 14 (by decide)
theorem RM.i15 (h : RM I R B) : I 15 = nI (B.1 15) := h.1 15 (by decide)
theorem RM.i16 (h : RM I R B) : I 16 = nI (B.1 16) := h.1 16 (by decide)
theorem RM.i18 (h : RM I R B) : I 18 = nI (B.1 18) := h.1 18 (by decide)
theorem RM.r0 (h : RM I R B) (i : Nat) : R 0 i = nI (B.2 0 i) := h.2 0 (by decide) i
theorem RM.r1 (h : RM I R B) (i : Nat) : R 1 i = nI (B.2 1 i) := h.2 1 (by decide) i
theorem RM.r3 (h : RM I R B) (i : Nat) : R 3 i = nI (B.2 3 i) := h.2 3 (by decide) i
theorem RM.r4 (h : RM I R B) (i : Nat) : R 4 i = nI (B.2 4 i) := h.2 4 (by decide) i
theorem RM.r5 (h : RM I R B) (i : Nat) : R 5 i = nI (B.2 5 i) := h.2 5 (by decide) i
theorem RM.r6 (h : RM I R B) (i : Nat) : R 6 i = nI (B.2 6 i) := h.2 6 (by decide) i
theorem RM.r7 (h : RM I R B) (i : Nat) : R 7 i = nI (B.2 7 i) := h.2 7 (by decide) i
theorem RM.r8 (h : RM I R B) (i : Nat) : R 8 i = nI (B.2 8 i) := h.2 8 (by decide) i
theorem RM.r9 (h : RM I R B) (i : Nat) : R 9 i = nI (B.2 9 i) := h.2 9 (by decide) i
theorem RM.r10 (h : RM I R B) (i : Nat) : R 10 i = nI (B.2 10 i) := h.2 10 (by decide) i
theorem RM.r17 (h : RM I R B) (i : Nat) : R 17 i = nI (B.2 17 i) := h.2 17 (by decide) i
theorem vu_ne {α : Type} {f : Nat → α} {k j : Nat} {v : α} (h : j ≠ k) : va_up f k v j = f j := if_neg h
theorem vu_eq {α : Type} {f : Nat → α} {k : Nat} {v : α} : va_up f k v k = v := if_pos rfl
theorem RM.upR (h : RM I R B) {j : Nat} (hj : j ∉ mR) (c : Nat → Int32) : RM I (va_up R j c) B := ⟨h.1, fun k hk i => by rw [vu_ne (k := j) (j := k) (fun e : k = j => hj (e ▸ hk))]; exact h.2 k hk i⟩
theorem RM.upI (h : RM I R B) {j : Nat} (hj : j ∉ mI) (v : Int32) : RM (va_up I j v) R B := ⟨fun k hk => by rw [vu_ne (k := j) (j := k) (fun e : k = j => hj (e ▸ hk))]; exact h.1 k hk, h.2⟩
end
/-- what is always so of the numbers -/
def InvB (B : Bk) : Prop := (B.1 2 ≤ 16 ∧ B.1 11 ≤ 14 ∧ B.1 12 ≤ 50 ∧ B.1 13 ≤ 14 ∧ B.1 14 ≤ 14 ∧ 1 ≤ B.1 15 ∧ B.1 15 ≤ 14 ∧ B.1 16 < 2 ^ B.1 11 ∧ B.1 18 ≤ 14) ∧
  ((∀ c, B.2 0 c ≤ 9) ∧ (∀ c, B.2 1 c ≤ 7) ∧ (∀ p, B.2 3 p ≤ 2) ∧ (∀ p, B.2 4 p ≤ 100) ∧ (∀ p, B.2 5 p ≤ 12) ∧ (∀ p, B.2 6 p ≤ 8) ∧ (∀ i, B.2 7 i < 16) ∧ (∀ i, B.2 8 i ≤ 99) ∧ (∀ i, B.2 9 i ≤ 99) ∧ (∀ i, B.2 10 i ≤ 20)) ∧
  ((∀ p, p < B.1 11 → 1 ≤ B.2 5 p) ∧ (∀ p, B.1 11 ≤ p → B.2 6 p = 0) ∧ (∀ p f, f < B.2 6 p → B.2 7 (8 * p + f) < B.1 2) ∧ (∀ p f g, f < B.2 6 p → g < B.2 6 p → B.2 7 (8 * p + f) = B.2 7 (8 * p + g) → f = g)) ∧
  (∀ g, g < B.1 18 → B.2 17 g < 2 ^ B.1 11)
section
variable {B : Bk}
theorem InvB.nc (h : InvB B) : B.1 2 ≤ 16 := h.1.1
theorem InvB.np (h : InvB B) : B.1 11 ≤ 14 := h.1.2.1
theorem InvB.span (h : InvB B) : B.1 12 ≤ 50 := h.1.2.2.1
theorem InvB.low (h : InvB B) : B.1 13 ≤ 14 := h.1.2.2.2.1
theorem InvB.high (h : InvB B) : B.1 14 ≤ 14 := h.1.2.2.2.2.1
theorem InvB.last1 (h : InvB B) : 1 ≤ B.1 15 := h.1.2.2.2.2.2.1
theorem InvB.last (h : InvB B) : B.1 15 ≤ 14 := h.1.2.2.2.2.2.2.1
theorem InvB.ch (h : InvB B) : B.1 16 < 2 ^ B.1 11 := h.1.2.2.2.2.2.2.2.1
theorem InvB.pm (h : InvB B) : B.1 18 ≤ 14 := h.1.2.2.2.2.2.2.2.2
theorem InvB.room (h : InvB B) : ∀ c, B.2 0 c ≤ 9 := h.2.1.1
theorem InvB.cons (h : InvB B) : ∀ c, B.2 1 c ≤ 7 := h.2.1.2.1
theorem InvB.kind (h : InvB B) : ∀ c, B.2 3 c ≤ 2 := h.2.1.2.2.1
theorem InvB.worth (h : InvB B) : ∀ c, B.2 4 c ≤ 100 := h.2.1.2.2.2.1
theorem InvB.size (h : InvB B) : ∀ c, B.2 5 c ≤ 12 := h.2.1.2.2.2.2.1
theorem InvB.nf (h : InvB B) : ∀ c, B.2 6 c ≤ 8 := h.2.1.2.2.2.2.2.1
theorem InvB.who (h : InvB B) : ∀ i, B.2 7 i < 16 := h.2.1.2.2.2.2.2.2.1
theorem InvB.x (h : InvB B) : ∀ i, B.2 8 i ≤ 99 := h.2.1.2.2.2.2.2.2.2.1
theorem InvB.y (h : InvB B) : ∀ i, B.2 9 i ≤ 99 := h.2.1.2.2.2.2.2.2.2.2.1
theorem InvB.hf (h : InvB B) : ∀ i, B.2 10 i ≤ 20 := h.2.1.2.2.2.2.2.2.2.2.2
theorem InvB.size1 (h : InvB B) : ∀ p, p < B.1 11 → 1 ≤ B.2 5 p := h.2.2.1.1
theorem InvB.nf0 (h : InvB B) : ∀ p, B.1 11 ≤ p → B.2 6 p = 0 := h.2.2.1.2.1
theorem InvB.whoc (h : InvB B) : ∀ p f, f < B.2 6 p → B.2 7 (8 * p + f) < B.1 2 := h.2.2.1.2.2.1
theorem InvB.once (h : InvB B) : ∀ p f g, f < B.2 6 p → g < B.2 6 p → B.2 7 (8 * p + f) = B.2 7 (8 * p + g) → f = g := h.2.2.1.2.2.2
theorem InvB.pg (h : InvB B) : ∀ g, g < B.1 18 → B.2 17 g < 2 ^ B.1 11 := h.2.2.2
end
/-! bits of a property, a union, a least, a greatest -/
def bitsF (P : Nat → Bool) : Nat → Nat
  | 0 => 0
  | n + 1 => bitsF P n ||| (if P n then 2 ^ n else 0)
def orF (P : Nat → Bool) (g : Nat → Nat) : Nat → Nat
  | 0 => 0
  | n + 1 => orF P g n ||| (if P n then 2 ^ g n else 0)
def anyF (P : Nat → Bool) : Nat → Bool
  | 0 => false
  | n + 1 => anyF P n || P n
def mnF (P : Nat → Bool) (g : Nat → Int) : Nat → Int
  | 0 => 1000
  | n + 1 => if P n then (if g n < mnF P g n then g n else mnF P g n) else mnF P g n
def mxF (P : Nat → Bool) (g : Nat → Int) : Nat → Int
  | 0 => -1000
  | n + 1 => if P n then (if mxF P g n < g n then g n else mxF P g n) else mxF P g n
theorem bitsF_tb (P : Nat → Bool) (i : Nat) : ∀ n, (bitsF P n).testBit i = (decide (i < n) && P i)
  | 0 => by simp [bitsF]
  | n + 1 => by
    rw [bitsF, Nat.testBit_or, bitsF_tb P i n]
    by_cases hP : P n
    · rw [if_pos hP, Nat.testBit_two_pow]
      by_cases e : i = n
      · subst e; simp [hP]
      · have e' : n ≠ i := fun h => e h.symm
        by_cases l : i < n
        · have l' : i < n + 1 := by omega
          simp [l, l', e']
        · have l' : ¬ i < n + 1 := by omega
          simp [l, l', e']
    · rw [if_neg hP, Nat.zero_testBit, Bool.or_false]
      by_cases e : i = n
      · subst e; simp [hP]
      · by_cases l : i < n
        · have l' : i < n + 1 := by omega
          simp [l, l']
        · have l' : ¬ i < n + 1 := by omega
          simp [l, l']
theorem bitsF_lt (P : Nat → Bool) (n : Nat) : bitsF P n < 2 ^ n := tb_lt (fun i hi => by
  rw [bitsF_tb] at hi
  simp at hi
  exact hi.1)
theorem bitsF_0 (P : Nat → Bool) : ∀ n, bitsF P n = 0 ↔ anyF P n = false
  | 0 => by simp [bitsF, anyF]
  | n + 1 => by
    rw [bitsF, anyF, Nat.or_eq_zero_iff, bitsF_0 P n]
    by_cases h : P n
    · simp [h]
    · simp [h]
theorem bitsF_cong {P Q : Nat → Bool} : ∀ {n : Nat}, (∀ k, k < n → P k = Q k) → bitsF P n = bitsF Q n
  | 0, _ => rfl
  | n + 1, h => by rw [bitsF, bitsF, bitsF_cong (fun k hk => h k (by omega)), h n (by omega)]
theorem orF_lt {P : Nat → Bool} {g : Nat → Nat} {m : Nat} : ∀ n, (∀ k, k < n → g k < m) → orF P g n < 2 ^ m
  | 0, _ => Nat.two_pow_pos m
  | n + 1, h => by
    rw [orF]
    refine Nat.or_lt_two_pow (orF_lt n (fun k hk => h k (by omega))) ?_
    by_cases hP : P n
    · rw [if_pos hP]; exact Nat.pow_lt_pow_right (by decide) (h n (by omega))
    · rw [if_neg hP]; exact Nat.two_pow_pos m
theorem orF_0 (P : Nat → Bool) (g : Nat → Nat) : ∀ n, orF P g n = 0 ↔ anyF P n = false
  | 0 => by simp [orF, anyF]
  | n + 1 => by
    rw [orF, anyF, Nat.or_eq_zero_iff, orF_0 P g n]
    by_cases h : P n
    · simp [h]
    · simp [h]
theorem anyF_iff (P : Nat → Bool) : ∀ n, anyF P n = true ↔ ∃ k, k < n ∧ P k = true
  | 0 => by simp [anyF]
  | n + 1 => by
    rw [anyF, Bool.or_eq_true, anyF_iff P n]
    constructor
    · rintro (⟨k, h1, h2⟩ | h)
      · exact ⟨k, by omega, h2⟩
      · exact ⟨n, by omega, h⟩
    · rintro ⟨k, h1, h2⟩
      by_cases e : k = n
      · exact Or.inr (e ▸ h2)
      · exact Or.inl ⟨k, by omega, h2⟩
theorem anyF_cong {P Q : Nat → Bool} : ∀ {n : Nat}, (∀ k, k < n → P k = Q k) → anyF P n = anyF Q n
  | 0, _ => rfl
  | n + 1, h => by rw [anyF, anyF, anyF_cong (fun k hk => h k (by omega)), h n (by omega)]
theorem mnF_bd {P : Nat → Bool} {g : Nat → Int} {lo : Int} (hlo : lo ≤ 1000) : ∀ n, (∀ k, k < n → lo ≤ g k) → lo ≤ mnF P g n ∧ mnF P g n ≤ 1000
  | 0, _ => ⟨hlo, Int.le_refl _⟩
  | n + 1, h => by
    have ih := mnF_bd hlo n (fun k hk => h k (by omega)) (P := P)
    have hg := h n (by omega)
    rw [mnF]
    split
    · split
      · omega
      · exact ih
    · exact ih
theorem mxF_bd {P : Nat → Bool} {g : Nat → Int} {hi : Int} (hhi : -1000 ≤ hi) : ∀ n, (∀ k, k < n → g k ≤ hi) → -1000 ≤ mxF P g n ∧ mxF P g n ≤ hi
  | 0, _ => ⟨Int.le_refl _, hhi⟩
  | n + 1, h => by
    have ih := mxF_bd hhi n (fun k hk => h k (by omega)) (P := P)
    have hg := h n (by omega)
    rw [mxF]
    split
    · split
      · omega
      · exact ih
    · exact ih
theorem mnF_no {P : Nat → Bool} {g : Nat → Int} : ∀ n, anyF P n = false → mnF P g n = 1000
  | 0, _ => rfl
  | n + 1, h => by
    rw [anyF, Bool.or_eq_false_iff] at h
    rw [mnF, if_neg (by rw [h.2]; decide), mnF_no n h.1]
theorem mxF_no {P : Nat → Bool} {g : Nat → Int} : ∀ n, anyF P n = false → mxF P g n = -1000
  | 0, _ => rfl
  | n + 1, h => by
    rw [anyF, Bool.or_eq_false_iff] at h
    rw [mxF, if_neg (by rw [h.2]; decide), mxF_no n h.1]
/-! a picture: who may be seen, the cut, good, seen -/
def may (B : Bk) (p f : Nat) : Bool := (B.2 1 (B.2 7 (8 * p + f))).testBit (B.2 3 p)
def cg (B : Bk) (p : Nat) (side f : Nat) : Int := match side with
  | 0 => (B.2 8 (8 * p + f) : Int) - B.2 10 (8 * p + f)
  | 1 => (B.2 9 (8 * p + f) : Int) - B.2 10 (8 * p + f)
  | 2 => (B.2 8 (8 * p + f) : Int) + B.2 10 (8 * p + f)
  | _ => (B.2 9 (8 * p + f) : Int) + B.2 10 (8 * p + f)
def cutN (B : Bk) (p side n : Nat) : Int := if side < 2 then mnF (may B p) (cg B p side) n else mxF (may B p) (cg B p side) n
def cutB (B : Bk) (p side : Nat) : Int := cutN B p side (B.2 6 p)
def touch (B : Bk) (p f : Nat) : Bool := decide (cg B p 0 f ≤ cutB B p 2) && (decide (cutB B p 0 ≤ cg B p 2 f) && (decide (cg B p 1 f ≤ cutB B p 3) && decide (cutB B p 1 ≤ cg B p 3 f)))
def allow (B : Bk) (p : Nat) : Nat := bitsF (may B p) (B.2 6 p)
def anyM (B : Bk) (p : Nat) : Bool := anyF (may B p) (B.2 6 p)
def bad (B : Bk) (p n : Nat) : Bool := anyF (fun f => !may B p f && touch B p f) n
def goodB (B : Bk) (p : Nat) : Bool := anyM B p && !bad B p (B.2 6 p)
def shownB (B : Bk) (p : Nat) : Nat := orF (may B p) (fun f => B.2 7 (8 * p + f)) (B.2 6 p)
def seenB (B : Bk) (p : Nat) : Nat := if goodB B p then shownB B p else 0
section
variable {B : Bk}
theorem cg_bd (h : InvB B) (p side f : Nat) : -20 ≤ cg B p side f ∧ cg B p side f ≤ 119 := by
  have h1 := h.x (8 * p + f)
  have h2 := h.y (8 * p + f)
  have h3 := h.hf (8 * p + f)
  unfold cg
  split <;> omega
theorem cutN_bd (h : InvB B) (p side n : Nat) : -1000 ≤ cutN B p side n ∧ cutN B p side n ≤ 1000 := by
  unfold cutN
  split
  · have := mnF_bd (P := may B p) (g := cg B p side) (lo := -20) (by omega) n (fun k _ => (cg_bd h p side k).1)
    omega
  · have := mxF_bd (P := may B p) (g := cg B p side) (hi := 119) (by omega) n (fun k _ => (cg_bd h p side k).2)
    omega
theorem shownB_lt (h : InvB B) (p : Nat) : shownB B p < 2 ^ 16 := orF_lt _ (fun k _ => h.who _)
theorem seenB_lt (h : InvB B) (p : Nat) : seenB B p < 2 ^ 16 := by
  unfold seenB
  split
  · exact shownB_lt h p
  · decide
theorem seenB_0 (p : Nat) : seenB B p = 0 ↔ goodB B p = false := by
  unfold seenB
  cases hg : goodB B p
  · simp
  · have h1 : anyM B p = true := by unfold goodB at hg; exact (Bool.and_eq_true _ _ ▸ hg).1
    have h2 : shownB B p ≠ 0 := fun e => by
      have := (orF_0 _ _ _).mp e
      unfold anyM at h1
      rw [h1] at this
      cases this
    simp [h2]
end
