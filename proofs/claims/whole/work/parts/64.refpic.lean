/-- an answer, nothing of the book changed, of the rows the 20th alone -/
def pK (B : Bk) (r0 : Int32) (I0 : Nat → Int32) (R0 : Nat → Nat → Int32) : Int32 → (Nat → Int32) → (Nat → Nat → Int32) → Prop := fun r I R => r = r0 ∧ I = I0 ∧ RM I0 R B ∧ ∀ j, j ≠ 20 → R j = R0 j
def b2i (b : Bool) : Int32 := if b then 1 else 0
theorem b2i_0 {b : Bool} : b2i b = 0 ↔ b = false := ite10
theorem b2i_n0 {b : Bool} : ¬ b2i b = 0 ↔ b = true := by rw [b2i_0]; cases b <;> simp
theorem of_not_false {b : Bool} (h : ¬ b = false) : b = true := by cases b <;> simp_all
theorem of_not_true {b : Bool} (h : ¬ b = true) : b = false := by cases b <;> simp_all
section
variable {I : Nat → Int32} {R R0 : Nat → Nat → Int32} {B : Bk}
theorem lX4_isGood (h : RM I R B) (hv : InvB B) {p : Nat} (hp : p < 14) (hc : ∀ side, side < 4 → R 20 side = iI (cutB B p side)) (ha : anyM B p = true) (hR : ∀ j, j ≠ 20 → R j = R0 j) : ∀ n f, f + n = B.2 6 p → bad B p f = false → qX4_isGood_12 (pK B (b2i (goodB B p)) I R0) (nI p) (nI f) I R
  | 0, f, e, hb => by
    have hnf := hv.nf p
    refine kX4_isGood_12 ⟨vp_in_nI hp (by decide), fun _ => ?_, fun c => ?_⟩
    · have e : f = B.2 6 p := by omega
      subst e
      refine ⟨?_, rfl, h, hR⟩
      unfold goodB
      rw [ha, hb]
      rfl
    · rw [nI_clamp (by omega), h.r6, nI_leI (by omega) (by omega)] at c
      omega
  | n + 1, f, e, hb => by
    have hnf := hv.nf p
    have hf : f < 8 := by omega
    have b0 := cg_bd hv p 0 f
    have b1 := cg_bd hv p 1 f
    have b2 := cg_bd hv p 2 f
    have b3 := cg_bd hv p 3 f
    have d0 := cutN_bd hv p 0 (B.2 6 p)
    have d1 := cutN_bd hv p 1 (B.2 6 p)
    have d2 := cutN_bd hv p 2 (B.2 6 p)
    have d3 := cutN_bd hv p 3 (B.2 6 p)
    have k122 : ∀ k0 : Int32, (k0 = 0 ↔ touch B p f = true) → qX4_isGood_122 (pK B (b2i (goodB B p)) I R0) (nI p) (nI f) k0 I R := by
      intro k0 hk0
      have next : (!may B p f && touch B p f) = false → qX4_isGood_12 (pK B (b2i (goodB B p)) I R0) (nI p) (nI f + 1) I R := by
        intro hz
        rw [nI_1]
        exact lX4_isGood h hv hp hc ha hR n (f + 1) (by omega) (by unfold bad at hb ⊢; rw [anyF, hb, hz]; rfl)
      refine kX4_isGood_122 ⟨_, sX4_may h hv hp hf, fun rc hrc => ⟨fun hm => next ?_, fun hm => ⟨fun hk => next ?_, fun hk => ?_⟩⟩⟩
      · rw [hrc, ite10] at hm
        rw [of_not_false hm]; rfl
      · rw [hk0] at hk
        rw [of_not_true hk, Bool.and_false]
      · rw [hrc, ite10] at hm
        refine ⟨?_, rfl, h, hR⟩
        have hbad : bad B p (B.2 6 p) = true := (anyF_iff _ _).mpr ⟨f, by omega, by rw [hm, hk0.mp hk]; rfl⟩
        unfold goodB
        rw [hbad, Bool.not_true, Bool.and_false]
        rfl
    have e0 : R 20 0 = iI (cutN B p 0 (B.2 6 p)) := hc 0 (by decide)
    have e1 : R 20 1 = iI (cutN B p 1 (B.2 6 p)) := hc 1 (by decide)
    have e2 : R 20 2 = iI (cutN B p 2 (B.2 6 p)) := hc 2 (by decide)
    have e3 : R 20 3 = iI (cutN B p 3 (B.2 6 p)) := hc 3 (by decide)
    have ht : touch B p f = true ↔ (cg B p 0 f ≤ cutN B p 2 (B.2 6 p) ∧ cutN B p 0 (B.2 6 p) ≤ cg B p 2 f ∧ cg B p 1 f ≤ cutN B p 3 (B.2 6 p) ∧ cutN B p 1 (B.2 6 p) ≤ cg B p 3 f) := by
      unfold touch cutB
      simp only [Bool.and_eq_true, decide_eq_true_eq]
    refine kX4_isGood_12 ⟨vp_in_nI hp (by decide), fun c => ?_, fun _ x3 ex3 => ?_⟩
    · rw [nI_clamp (by omega), h.r6, nI_leI (by omega) (by omega)] at c
      omega
    · rw [at8] at ex3
      subst ex3
      refine ⟨in112 hp hf, ?_⟩
      rw [nI_clamp (by omega)]
      obtain ⟨g0, g1, g2, g3⟩ := cgI h p f
      rw [g0, g1, g2, g3, e0, e1, e2, e3, iI_lt (by omega) (by omega) (by omega) (by omega), iI_lt (by omega) (by omega) (by omega) (by omega), iI_lt (by omega) (by omega) (by omega) (by omega), iI_le (by omega) (by omega) (by omega) (by omega)]
      have no : ∀ q : Prop, q → (q → ¬ touch B p f = true) → ((1 : Int32) = 0 ↔ touch B p f = true) := fun q h1 h2 => ⟨fun e => absurd e (by decide), fun e => absurd e (h2 h1)⟩
      refine ⟨fun c1 => k122 1 (no _ c1 (fun c => by rw [ht]; omega)), fun c1 => ⟨fun c2 => k122 1 (no _ c2 (fun c => by rw [ht]; omega)), fun c2 => ⟨fun c3 => k122 1 (no _ c3 (fun c => by rw [ht]; omega)), fun c3 => ⟨fun c4 => k122 0 ⟨fun _ => ?_, fun _ => rfl⟩, fun c4 => k122 1 (no _ c4 (fun c => by rw [ht]; omega))⟩⟩⟩⟩
      rw [ht]
      omega
theorem sX4_isGood (h : RM I R B) (hv : InvB B) {p : Nat} (hp : p < 14) : qX4_isGood (pK B (b2i (goodB B p)) I R) (nI p) I R := by
  refine ⟨_, sX4_cutOf h hv hp, fun rc I1 R1 hq => ?_⟩
  obtain ⟨e1, rfl, h1, h2, h3⟩ := hq
  refine ⟨fun c => ?_, fun c => ?_⟩
  · rw [e1, ite10] at c
    have ha : anyM B p = true := of_not_false c
    exact lX4_isGood h1 hv hp (fun side hs => h3 ha side hs) ha h2 _ 0 (Nat.zero_add _) rfl
  · rw [e1, ite10] at c
    refine ⟨?_, rfl, h1, h2⟩
    unfold goodB
    rw [c]
    rfl
theorem lX4_seenIn (h : RM I R B) (hv : InvB B) {p : Nat} (hp : p < 14) (hR : ∀ j, j ≠ 20 → R j = R0 j) (hg : goodB B p = true) : ∀ n f, f + n = B.2 6 p → qX4_seenIn_14 (pK B (nI (seenB B p)) I R0) (nI p) (nI (orF (may B p) (fun f => B.2 7 (8 * p + f)) f)) (nI f) I R
  | 0, f, e => by
    have hnf := hv.nf p
    refine kX4_seenIn_14 ⟨vp_in_nI hp (by decide), fun _ => ?_, fun c => ?_⟩
    · have e : f = B.2 6 p := by omega
      subst e
      exact ⟨by unfold seenB; rw [if_pos hg]; rfl, rfl, h, hR⟩
    · rw [nI_clamp (by omega), h.r6, nI_leI (by omega) (by omega)] at c
      omega
  | n + 1, f, e => by
    have hnf := hv.nf p
    have hf : f < 8 := by omega
    have ih := lX4_seenIn h hv hp hR hg n (f + 1) (by omega)
    rw [← nI_1, orF] at ih
    refine kX4_seenIn_14 ⟨vp_in_nI hp (by decide), fun c => ?_, fun _ => ⟨_, sX4_may h hv hp hf, fun rc hrc => ⟨fun hm => ?_, fun hm => ?_⟩⟩⟩
    · rw [nI_clamp (by omega), h.r6, nI_leI (by omega) (by omega)] at c
      omega
    · rw [hrc, ite10] at hm
      rw [if_neg (by rw [hm]; decide), Nat.or_zero] at ih
      exact ih
    · rw [hrc, ite10] at hm
      rw [if_pos (of_not_false hm)] at ih
      have hw := hv.who (8 * p + f)
      rw [at8, nI_clamp (by omega), h.r7, tb_shl _ (by omega), tb_or]
      exact ⟨in112 hp hf, fun x2 ex2 => ex2 ▸ ih⟩
theorem sX4_seenIn (h : RM I R B) (hv : InvB B) {p : Nat} (hp : p < 14) : qX4_seenIn (pK B (nI (seenB B p)) I R) (nI p) I R := by
  refine ⟨_, sX4_isGood h hv hp, fun rc I1 R1 hq => ?_⟩
  obtain ⟨e1, rfl, h1, h2⟩ := hq
  refine ⟨fun c => ?_, fun c => ?_⟩
  · rw [e1, b2i_n0] at c
    exact lX4_seenIn h1 hv hp h2 c _ 0 (Nat.zero_add _)
  · rw [e1, b2i_0] at c
    exact ⟨by unfold seenB; rw [if_neg (by rw [c]; decide)]; rfl, rfl, h1, h2⟩
theorem pK.mono {r0 : Int32} {R1 : Nat → Nat → Int32} (hR : ∀ j, j ≠ 20 → R1 j = R0 j) {r : Int32} {I' : Nat → Int32} {R' : Nat → Nat → Int32} (h : pK B r0 I R1 r I' R') : pK B r0 I R0 r I' R' := ⟨h.1, h.2.1, h.2.2.1, fun j hj => (h.2.2.2 j hj).trans (hR j hj)⟩
theorem lX4_good (hv : InvB B) : ∀ n k, k + n = B.1 11 → ∀ R : Nat → Nat → Int32, RM I R B → (∀ j, j ≠ 20 → R j = R0 j) → qX4_good_4 (pK B (nI (bitsF (goodB B) (B.1 11))) I R0) (nI (bitsF (goodB B) k)) (nI k) I R
  | 0, k, e, R, h, hR => by
    have hn := hv.np
    refine kX4_good_4 ⟨fun _ => ?_, fun c => ?_⟩
    · have e : k = B.1 11 := by omega
      subst e
      exact ⟨rfl, rfl, h, hR⟩
    · rw [h.i11, nI_leI (by omega) (by omega)] at c
      omega
  | n + 1, k, e, R, h, hR => by
    have hn := hv.np
    refine kX4_good_4 ⟨fun c => ?_, fun _ => ⟨_, sX4_isGood h hv (p := k) (by omega), fun rc I1 R1 hq => ?_⟩⟩
    · rw [h.i11, nI_leI (by omega) (by omega)] at c
      omega
    · obtain ⟨e1, e2, h1, h2⟩ := hq
      rw [e2]
      have ih := lX4_good hv n (k + 1) (by omega) R1 h1 (fun j hj => (h2 j hj).trans (hR j hj))
      rw [← nI_1, bitsF] at ih
      refine ⟨fun c => ?_, fun c x1 ex1 => ?_⟩
      · rw [e1, b2i_0] at c
        rw [if_neg (by rw [c]; decide), Nat.or_zero] at ih
        exact ih
      · rw [e1, b2i_n0] at c
        rw [if_pos c] at ih
        rw [ex1, tb_shl _ (by omega), tb_or]
        exact ih
theorem sX4_good (h : RM I R B) (hv : InvB B) : qX4_good (pK B (nI (bitsF (goodB B) (B.1 11))) I R) I R := lX4_good hv _ 0 (Nat.zero_add _) R h (fun _ _ => rfl)
/-- the union of numbers -/
def orN (g : Nat → Nat) : Nat → Nat
  | 0 => 0
  | n + 1 => orN g n ||| g n
theorem lX4_shown (hv : InvB B) : ∀ n k, k + n = B.1 11 → ∀ R : Nat → Nat → Int32, RM I R B → (∀ j, j ≠ 20 → R j = R0 j) → qX4_shown_4 (pK B (nI (orN (seenB B) (B.1 11))) I R0) (nI (orN (seenB B) k)) (nI k) I R
  | 0, k, e, R, h, hR => by
    have hn := hv.np
    refine kX4_shown_4 ⟨fun _ => ?_, fun c => ?_⟩
    · have e : k = B.1 11 := by omega
      subst e
      exact ⟨rfl, rfl, h, hR⟩
    · rw [h.i11, nI_leI (by omega) (by omega)] at c
      omega
  | n + 1, k, e, R, h, hR => by
    have hn := hv.np
    refine kX4_shown_4 ⟨fun c => ?_, fun _ => ⟨_, sX4_seenIn h hv (p := k) (by omega), fun rc I1 R1 hq x1 ex1 => ?_⟩⟩
    · rw [h.i11, nI_leI (by omega) (by omega)] at c
      omega
    · obtain ⟨e1, e2, h1, h2⟩ := hq
      rw [e2]
      have ih := lX4_shown hv n (k + 1) (by omega) R1 h1 (fun j hj => (h2 j hj).trans (hR j hj))
      rw [← nI_1, orN] at ih
      rw [ex1, e1, tb_or]
      exact ih
theorem sX4_shown (h : RM I R B) (hv : InvB B) : qX4_shown (pK B (nI (orN (seenB B) (B.1 11))) I R) I R := lX4_shown hv _ 0 (Nat.zero_add _) R h (fun _ _ => rfl)
/-- the worth of a set -/
def sumB (B : Bk) (S n : Nat) : Nat := fb_sm (fun p => if S.testBit p then B.2 4 p else 0) n
theorem sumB_succ (S n : Nat) : sumB B S (n + 1) = sumB B S n + (if S.testBit n then B.2 4 n else 0) := rfl
theorem lX4_sum (h : RM I R B) (hv : InvB B) {S : Nat} (hS : S < 2 ^ 31) : ∀ n k, k + n = B.1 11 → qX4_sum_4 (fun r => r = nI (sumB B S (B.1 11))) (nI S) I R (nI (sumB B S k)) (nI k)
  | 0, k, e => by
    have hn := hv.np
    refine kX4_sum_4 ⟨fun _ => ?_, fun c => ?_⟩
    · have e : k = B.1 11 := by omega
      subst e
      rfl
    · rw [h.i11, nI_leI (by omega) (by omega)] at c
      omega
  | n + 1, k, e => by
    have hn := hv.np
    have ih := lX4_sum h hv hS n (k + 1) (by omega)
    rw [← nI_1, sumB_succ] at ih
    refine kX4_sum_4 ⟨fun c => ?_, fun _ => ⟨fun c => ?_, fun c => ⟨vp_in_nI (by omega) (by decide), fun x2 ex2 => ?_⟩⟩⟩
    · rw [h.i11, nI_leI (by omega) (by omega)] at c
      omega
    · rw [tb_1 hS (by omega)] at c
      rw [if_neg c, Nat.add_zero] at ih
      exact ih
    · rw [tb_1 hS (by omega)] at c
      rw [if_pos c] at ih
      rw [ex2, nI_clamp (by omega), h.r4, nI_add]
      exact ih
theorem sX4_sum (h : RM I R B) (hv : InvB B) {S : Nat} (hS : S < 2 ^ 31) : qX4_sum (fun r => r = nI (sumB B S (B.1 11))) (nI S) I R := lX4_sum h hv hS _ 0 (Nat.zero_add _)
/-- in how many of a set a child is seen -/
def timesB (B : Bk) (S c n : Nat) : Nat := fb_ct (fun p => S.testBit p && (seenB B p).testBit c) n
theorem timesB_succ (S c n : Nat) : timesB B S c (n + 1) = timesB B S c n + (if S.testBit n && (seenB B n).testBit c then 1 else 0) := rfl
theorem lX4_timesIn (hv : InvB B) {S c : Nat} (hS : S < 2 ^ 31) (hc : c < 31) : ∀ n k, k + n = B.1 11 → ∀ R : Nat → Nat → Int32, RM I R B → (∀ j, j ≠ 20 → R j = R0 j) → qX4_timesIn_5 (pK B (nI (timesB B S c (B.1 11))) I R0) (nI S) (nI c) (nI (timesB B S c k)) (nI k) I R
  | 0, k, e, R, h, hR => by
    have hn := hv.np
    refine kX4_timesIn_5 ⟨fun _ => ?_, fun c => ?_⟩
    · have e : k = B.1 11 := by omega
      subst e
      exact ⟨rfl, rfl, h, hR⟩
    · rw [h.i11, nI_leI (by omega) (by omega)] at c
      omega
  | n + 1, k, e, R, h, hR => by
    have hn := hv.np
    refine kX4_timesIn_5 ⟨fun c => ?_, fun _ => ⟨fun c => ?_, fun c9 => ⟨_, sX4_seenIn h hv (p := k) (by omega), fun rc I1 R1 hq x1 ex1 => ?_⟩⟩⟩
    · rw [h.i11, nI_leI (by omega) (by omega)] at c
      omega
    · rw [tb_1 hS (by omega)] at c
      have ih := lX4_timesIn hv hS hc n (k + 1) (by omega) R h hR
      rw [← nI_1, timesB_succ, of_not_true c, Bool.false_and] at ih
      exact ih
    · obtain ⟨e1, e2, h1, h2⟩ := hq
      rw [e2]
      rw [tb_1 hS (by omega)] at c9
      have ih := lX4_timesIn hv hS hc n (k + 1) (by omega) R1 h1 (fun j hj => (h2 j hj).trans (hR j hj))
      have hs := seenB_lt hv k
      rw [← nI_1, timesB_succ, c9, Bool.true_and] at ih
      rw [ex1, e1, tb_bit (by omega) hc]
      cases hb : (seenB B k).testBit c
      · rw [hb] at ih
        rw [if_neg (by decide), Int32.add_zero]
        exact ih
      · rw [hb] at ih
        show qX4_timesIn_5 _ _ _ (nI _ + 1) _ _ _
        rw [nI_1]
        exact ih
theorem sX4_timesIn (h : RM I R B) (hv : InvB B) {S c : Nat} (hS : S < 2 ^ 31) (hc : c < 31) : qX4_timesIn (pK B (nI (timesB B S c (B.1 11))) I R) (nI S) (nI c) I R := lX4_timesIn hv hS hc _ 0 (Nat.zero_add _) R h (fun _ _ => rfl)
/-- the page of a picture -/
def pageB (B : Bk) (p : Nat) : Nat := fa_first (fun g => (B.2 17 g).testBit p) (B.1 18)
def pageI (B : Bk) (p : Nat) : Int32 := if pageB B p < B.1 18 then nI (pageB B p) else -1
end
