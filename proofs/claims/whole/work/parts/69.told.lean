/-! told -/
theorem first_eq {P : Nat → Bool} {n k : Nat} (hk : k < n) (hn : ∀ j, j < k → P j = false) (hp : P k = true) : fa_first P n = k := by
  rcases Nat.lt_trichotomy (fa_first P n) k with h | h | h
  · have := fa_first_yes P n (by omega)
    rw [hn _ h] at this
    cases this
  · exact h
  · have := fa_first_no P n k h
    rw [hp] at this
    cases this
theorem first_none {P : Nat → Bool} {n : Nat} (hn : ∀ j, j < n → P j = false) : fa_first P n = n := by
  rcases Nat.lt_or_ge (fa_first P n) n with h | h
  · have := fa_first_yes P n h
    rw [hn _ h] at this
    cases this
  · have := fa_first_le P n
    omega
section
variable {I : Nat → Int32} {R : Nat → Nat → Int32} {CI : Nat → Int32} {CJ : Nat → Int64} {CR : Nat → Nat → Int32} {CG : Nat → Nat → Int64} {EI : Nat → Int32} {ER : Nat → Nat → Int32} {Eq En : Nat} {V : vS} {B : Bk} {lt : Nat}
theorem pageI_at {p g : Nat} (hg : g < B.1 18) (hn : ∀ j, j < g → (B.2 17 j).testBit p = false) (hb : (B.2 17 g).testBit p = true) : pageI B p = nI g := by
  have e : pageB B p = g := first_eq hg hn hb
  unfold pageI
  rw [e, if_pos hg]
theorem pageI_no {p : Nat} (hn : ∀ j, j < B.1 18 → (B.2 17 j).testBit p = false) : pageI B p = -1 := by
  have e : pageB B p = B.1 18 := first_none hn
  unfold pageI
  rw [e, if_neg (Nat.lt_irrefl _)]
theorem lX4_pageOf (h : RM I R B) (hv : InvB B) {p : Nat} (hp : p < 31) : ∀ n k, k + n = B.1 18 → (∀ j, j < k → (B.2 17 j).testBit p = false) → qX4_pageOf_2 (fun r => r = pageI B p) (nI p) I R (nI k)
  | 0, k, e, hn => by
    have hpm := hv.pm
    refine kX4_pageOf_2 ⟨fun _ => ?_, fun c => ?_⟩
    · have e : k = B.1 18 := by omega
      subst e
      exact (pageI_no hn).symm
    · rw [h.i18, nI_leI (by omega) (by omega)] at c
      omega
  | n + 1, k, e, hn => by
    have hpm := hv.pm
    have hl := pg_lt hv (g := k) (by omega)
    refine kX4_pageOf_2 ⟨fun c => ?_, fun _ => ⟨vp_in_nI (by omega) (by decide), ?_⟩⟩
    · rw [h.i18, nI_leI (by omega) (by omega)] at c
      omega
    · rw [nI_clamp (by omega), h.r17, tb_1 (by omega) hp]
      refine ⟨fun c => ?_, fun c => (pageI_at (by omega) hn c).symm⟩
      rw [nI_1]
      exact lX4_pageOf h hv hp n (k + 1) (by omega) (fun j hj => by
        rcases Nat.lt_or_ge j k with g | g
        · exact hn j g
        · rw [show j = k by omega]; exact of_not_true c)
theorem sX4_pageOf (h : RM I R B) (hv : InvB B) {p : Nat} (hp : p < 31) : qX4_pageOf (fun r => r = pageI B p) (nI p) I R := lX4_pageOf h hv hp _ 0 (Nat.zero_add _) (fun j hj => by omega)
theorem lX1_pageOf (h : RCc I R EI ER En V B lt) (hv : InvB B) {p : Nat} (hp : p < 31) : ∀ n k, k + n = B.1 18 → (∀ j, j < k → (B.2 17 j).testBit p = false) → qX1_pageOf_2 (fun r => r = pageI B p) (nI p) EI ER Eq En (nI k)
  | 0, k, e, hn => by
    have hpm := hv.pm
    refine kX1_pageOf_2 ⟨fun _ => ?_, fun c => ?_⟩
    · have e : k = B.1 18 := by omega
      subst e
      exact (pageI_no hn).symm
    · rw [h.e3, nI_leI (by omega) (by omega)] at c
      omega
  | n + 1, k, e, hn => by
    have hpm := hv.pm
    have hl := pg_lt hv (g := k) (by omega)
    refine kX1_pageOf_2 ⟨fun c => ?_, fun _ => ⟨vp_in_nI (by omega) (by decide), ?_⟩⟩
    · rw [h.e3, nI_leI (by omega) (by omega)] at c
      omega
    · rw [nI_clamp (by omega), h.pg (by omega), tb_0 (by omega) hp]
      refine ⟨fun c => ?_, fun c => (pageI_at (by omega) hn (of_not_false c)).symm⟩
      rw [nI_1]
      exact lX1_pageOf h hv hp n (k + 1) (by omega) (fun j hj => by
        rcases Nat.lt_or_ge j k with g | g
        · exact hn j g
        · rw [show j = k by omega]; exact c)
theorem sX1_pageOf (h : RCc I R EI ER En V B lt) (hv : InvB B) {p : Nat} (hp : p < 31) : qX1_pageOf (fun r => r = pageI B p) (nI p) EI ER Eq En := lX1_pageOf h hv hp _ 0 (Nat.zero_add _) (fun j hj => by omega)
def toldI (B : Bk) (p : Nat) (w : Int32) : Int32 := if w = 0 then nI (B.2 3 p) else if w = 1 then nI (B.2 4 p) else if w = 2 then nI (B.2 5 p) else if w = 3 then nI (B.2 6 p) else if w = 4 then b2i (goodB B p) else if w = 5 then nI (seenB B p) else if w = 10 then pageI B p else edgeI B p (w - 6)
theorem w_10 {w : Int32} (h : decide (((0 : Nat) : Int) ≤ w.toInt ∧ w.toInt ≤ (10 : Nat)) = true) : ¬ (w.toInt < 0 ∨ 10 < w.toInt) := by
  rw [decide_eq_true_eq] at h
  omega
theorem sX3_told (h : RCc I R EI ER En V B lt) (hv : InvB B) (a w : Int32) : qX3_told (fun r => (isIn a (B.1 11) && decide (((0 : Nat) : Int) ≤ w.toInt ∧ w.toInt ≤ (10 : Nat))) = true ∧ r = toldI B a.toNatClampNeg w) ((isIn a (B.1 11) && decide (((0 : Nat) : Int) ≤ w.toInt ∧ w.toInt ≤ (10 : Nat))) = false) a w I R CI CJ CR CG EI ER Eq En V := by
  have hn := hv.np
  refine ⟨by rw [h.i4, h.vn], by rw [h.vn]; exact hn, fun c => kX3_told_20 ?_, fun k hk e => ⟨_, sX3_within w 0 10 (by decide) (by decide), fun rc hrc => ⟨fun c => ?_, fun c => kX3_told_20 ?_⟩⟩⟩
  · have : isIn a (B.1 11) = false := by
      unfold isIn
      rw [h.i4, fa_lt, fa_le, nI_toInt (by omega)] at c
      have c : a.toInt < 0 ∨ (B.1 11 : Int) ≤ a.toInt := c
      exact decide_eq_false (by omega)
    rw [this]; rfl
  · rw [hrc, b2i_n0] at c
    have hwo := w_10 c
    rw [h.vn] at hk
    subst e
    have hin : isIn (nI k) (B.1 11) = true := by rw [isIn_nI (by omega)]; exact decide_eq_true hk
    rw [hin, c, nI_clamp (by omega)]
    have hpic := h.pic hk
    have hs := seenB_lt hv k
    refine ⟨fun o => absurd o hwo, fun e => ⟨rfl, ?_⟩, fun e => ⟨rfl, ?_⟩, fun e => ⟨rfl, ?_⟩, fun e => ⟨rfl, ?_⟩, fun e => ?_, fun e => ⟨rfl, ?_⟩, fun e => ?_, fun e => ?_, fun e => ?_, fun e => ?_, fun e => ?_⟩
    · subst e; exact hpic.1.1
    · subst e; exact hpic.1.2.1
    · subst e; exact hpic.1.2.2.1
    · subst e; exact hpic.1.2.2.2.1
    · subst e
      rw [hpic.2.2.1, nI_z (by omega), seenB_0]
      refine ⟨fun c => ⟨rfl, ?_⟩, fun c => ⟨rfl, ?_⟩⟩
      · show (0 : Int32) = b2i (goodB B k)
        rw [c]; rfl
      · show (1 : Int32) = b2i (goodB B k)
        rw [of_not_false c]; rfl
    · subst e; exact hpic.2.2.1
    · subst e; exact ⟨_, sX2_edge hv hpic _, fun r hr => ⟨rfl, hr⟩⟩
    · subst e; exact ⟨_, sX2_edge hv hpic _, fun r hr => ⟨rfl, hr⟩⟩
    · subst e; exact ⟨_, sX2_edge hv hpic _, fun r hr => ⟨rfl, hr⟩⟩
    · subst e; exact ⟨_, sX2_edge hv hpic _, fun r hr => ⟨rfl, hr⟩⟩
    · subst e; exact ⟨_, sX1_pageOf h hv (by omega), fun r hr => ⟨rfl, hr⟩⟩
  · rw [hrc, b2i_0] at c
    rw [c, Bool.and_false]
theorem sX4_told (h : RM I R B) (hv : InvB B) (a w : Int32) : qX4_told (fun r I' R' => RM I' R' B ∧ (if (isIn a (B.1 11) && decide (((0 : Nat) : Int) ≤ w.toInt ∧ w.toInt ≤ (10 : Nat))) = true then I' 19 = 0 ∧ r = toldI B a.toNatClampNeg w else I' 19 = 1)) a w I R := by
  have hn := hv.np
  have h9 := h.upI (j := 19) (by decide) 0
  refine ⟨_, sX4_isPicture h9 hv a, fun rc hrc => ⟨fun c => kX4_told_23 ⟨h9.upI (by decide) 1, ?_⟩, fun c => ⟨_, sX4_in w 0 10 (by decide) (by decide), fun rc2 hrc2 => ⟨fun c2 => ?_, fun c2 => kX4_told_23 ⟨h9.upI (by decide) 1, ?_⟩⟩⟩⟩⟩
  · rw [hrc, b2i_0] at c
    rw [c, Bool.false_and, if_neg (by decide)]
    rfl
  · rw [hrc, b2i_n0] at c
    rw [hrc2, b2i_n0] at c2
    have hwo := w_10 c2
    obtain ⟨k, hk, rfl⟩ := isIn_get c
    have hk14 : k < 14 := by omega
    rw [c, c2, nI_clamp (by omega)]
    simp only [Bool.and_self, ↓reduceIte]
    have cut : ∀ w : Int32, (¬ w < 0 ∧ w < 4) → ∃ Pc : Int32 → (Nat → Int32) → (Nat → Nat → Int32) → Prop, qX4_cutOf Pc (nI k) (va_up I 19 0) R ∧ ∀ (rc : Int32) (I1 : Nat → Int32) (R1 : Nat → Nat → Int32), Pc rc I1 R1 → (rc = 0 → RM I1 R1 B ∧ I1 19 = 0 ∧ -1 = edgeI B k w) ∧ (¬ rc = 0 → vp_in w 4 ∧ RM I1 R1 B ∧ I1 19 = 0 ∧ R1 20 w.toNatClampNeg = edgeI B k w) := by
      intro w hw
      refine ⟨_, sX4_cutOf h9 hv hk14, fun rc I1 R1 hq => ?_⟩
      obtain ⟨q1, q2, q3, q4, q5⟩ := hq
      have hw4 : w.toNatClampNeg < 4 := by
        obtain ⟨n, hn, rfl⟩ := nI_of hw.1
        have := hw.2
        rw [show (4 : Int32) = nI 4 from rfl, nI_ltI hn (by decide)] at this
        rw [nI_clamp hn]
        exact this
      unfold edgeI
      refine ⟨fun c => ?_, fun c => ?_⟩
      · rw [q1, ite10] at c
        rw [c, q2]
        exact ⟨q3, rfl, rfl⟩
      · rw [q1, ite10] at c
        have c : anyM B k = true := of_not_false c
        rw [c, q2, if_pos rfl, if_neg hw.1, if_pos hw.2]
        exact ⟨fun hh => hh.elim hw.1 (fun h9 => by omega), q3, rfl, q5 c _ hw4⟩
    refine ⟨fun o => absurd o hwo, fun e => ⟨vp_in_nI hk14 (by decide), h9, rfl, ?_⟩, fun e => ⟨vp_in_nI hk14 (by decide), h9, rfl, ?_⟩, fun e => ⟨vp_in_nI hk14 (by decide), h9, rfl, ?_⟩, fun e => ⟨vp_in_nI hk14 (by decide), h9, rfl, ?_⟩, fun e => ?_, fun e => ?_, fun e => ?_, fun e => ?_, fun e => ?_, fun e => ?_, fun e => ?_⟩
    · subst e; exact h.r3 k
    · subst e; exact h.r4 k
    · subst e; exact h.r5 k
    · subst e; exact h.r6 k
    · subst e
      refine ⟨_, sX4_isGood h9 hv hk14, fun rc I1 R1 hq => ?_⟩
      obtain ⟨q1, q2, q3, q4⟩ := hq
      refine ⟨fun c => ⟨by rw [q2]; exact q3, by rw [q2]; rfl, ?_⟩, fun c => ⟨by rw [q2]; exact q3, by rw [q2]; rfl, ?_⟩⟩
      · rw [q1, b2i_0] at c
        show (0 : Int32) = b2i (goodB B k)
        rw [c]; rfl
      · rw [q1, b2i_n0] at c
        show (1 : Int32) = b2i (goodB B k)
        rw [c]; rfl
    · subst e
      refine ⟨_, sX4_seenIn h9 hv hk14, fun rc I1 R1 hq => ?_⟩
      obtain ⟨q1, q2, q3, q4⟩ := hq
      exact ⟨by rw [q2]; exact q3, by rw [q2]; rfl, q1⟩
    · subst e; exact cut (6 - 6) (by decide)
    · subst e; exact cut (7 - 6) (by decide)
    · subst e; exact cut (8 - 6) (by decide)
    · subst e; exact cut (9 - 6) (by decide)
    · subst e
      exact ⟨_, sX4_pageOf h9 hv (by omega), fun r hr => ⟨h9, rfl, hr⟩⟩
  · rw [hrc2, b2i_0] at c2
    rw [c2, Bool.and_false, if_neg (by decide)]
    rfl
end
theorem ag_told : Ag_told JJ := fun {k c s u v} a w hk hj => by
  obtain ⟨B, lt, hv, hg, hc, hm, h1, h2⟩ := hj
  refine ⟨_, _, sX3_told hc hv a w, fun r hr => ?_, fun hx => ?_⟩
  · refine ⟨_, sX4_told hm hv a w, fun r' v' hq => ⟨fun t => t = v'.1 19, rfl, fun t ht => ?_⟩⟩
    obtain ⟨q1, q2⟩ := hq
    rw [if_pos hr.1] at q2
    exact ⟨ht.trans q2.1, hr.2.trans q2.2.symm, B, lt, hv, hg, hc, q1, by omega, by omega⟩
  · refine ⟨_, sX4_told hm hv a w, fun r' v' hq => ⟨fun t => t = v'.1 19, rfl, fun t ht => ?_⟩⟩
    obtain ⟨q1, q2⟩ := hq
    rw [if_neg (by rw [hx]; decide)] at q2
    exact ⟨ht.trans q2, B, lt, hv, hg, hc, q1, by omega, by omega⟩
