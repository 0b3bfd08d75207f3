/-! the good pictures in their order; counts and marks of sets -/
section
variable (B : Bk)
/-- how many good ones stand before p -/
def idx (p : Nat) : Nat := fb_ct (goodB B) p
def gN : Nat := idx B (B.1 11)
def loS (i : Nat) : Nat := bitsF (fun p => goodB B p && decide (idx B p < i)) (B.1 11)
def hiS (i : Nat) : Nat := bitsF (fun p => goodB B p && decide (i ≤ idx B p)) (B.1 11)
/-- the mark of a picture; nr: whether nearness counts -/
def mk (nr : Bool) (p : Nat) : Int := (B.2 4 p : Int) * 262144 - 16384 - 2 ^ p + (if nr then (if (B.1 16).testBit p then 4294967296 else -4294967296) else 0)
def wiS (nr : Bool) (i : Nat) : Nat := bitsF (fun p => (goodB B p && decide (i ≤ idx B p)) && decide (0 < mk B nr p)) (B.1 11)
def mkS (nr : Bool) (S n : Nat) : Int := fb_si (fun p => if S.testBit p then mk B nr p else 0) n
/-- how often each child is seen, sixteen of a digit -/
def cL (S : Nat) : Nat := dsum 4 (fun c => timesB B S c (B.1 11)) 16
/-- a set of good ones that is S before the i-th -/
def Sc (i S T : Nat) : Prop := T &&& goodS B = T ∧ T &&& loS B i = S
def fits (S : Nat) : Prop := ∀ c, (allB B).testBit c = true → B.1 13 ≤ timesB B S c (B.1 11) ∧ timesB B S c (B.1 11) ≤ B.1 14
end
section
variable {B : Bk}
theorem goodS_tb (p : Nat) : (goodS B).testBit p = (decide (p < B.1 11) && goodB B p) := bitsF_tb _ _ _
theorem loS_tb (i p : Nat) : (loS B i).testBit p = (decide (p < B.1 11) && (goodB B p && decide (idx B p < i))) := bitsF_tb _ _ _
theorem hiS_tb (i p : Nat) : (hiS B i).testBit p = (decide (p < B.1 11) && (goodB B p && decide (i ≤ idx B p))) := bitsF_tb _ _ _
theorem wiS_tb (nr : Bool) (i p : Nat) : (wiS B nr i).testBit p = (decide (p < B.1 11) && ((goodB B p && decide (i ≤ idx B p)) && decide (0 < mk B nr p))) := bitsF_tb _ _ _
theorem idx_le (p : Nat) : idx B p ≤ p := fb_ct_le _ p
theorem idx_succ (p : Nat) : idx B (p + 1) = idx B p + (if goodB B p then 1 else 0) := rfl
theorem idx_mono {p q : Nat} (h : p ≤ q) : idx B p ≤ idx B q := fb_ct_mono _ h
theorem idx_lt {p q : Nat} (h : p < q) (hg : goodB B p = true) : idx B p < idx B q := by
  have := idx_mono (B := B) (p := p + 1) (q := q) h
  rw [idx_succ, if_pos hg] at this
  omega
theorem gN_le (hv : InvB B) : gN B ≤ 14 := Nat.le_trans (idx_le _) hv.np
/-- the i-th good one -/
theorem idx_at {i : Nat} (h : i < gN B) : ∃ p, p < B.1 11 ∧ goodB B p = true ∧ idx B p = i := fb_ct_kth h
theorem idx_one {p q : Nat} (h1 : goodB B p = true) (h2 : goodB B q = true) (e : idx B p = idx B q) : p = q := fb_ct_kth_one h1 h2 e
theorem lo_0 : loS B 0 = 0 := by
  apply Nat.eq_of_testBit_eq
  intro k
  rw [loS_tb, Nat.zero_testBit, decide_eq_false (Nat.not_lt_zero _), Bool.and_false, Bool.and_false]
theorem lo_full : loS B (gN B) = goodS B := by
  apply Nat.eq_of_testBit_eq
  intro k
  rw [loS_tb, goodS_tb]
  by_cases g : k < B.1 11
  · cases hg : goodB B k
    · rfl
    · rw [decide_eq_true (show idx B k < gN B from idx_lt g hg), Bool.and_true]
  · rw [decide_eq_false g]; rfl
theorem hi_full : hiS B (gN B) = 0 := by
  apply Nat.eq_of_testBit_eq
  intro k
  rw [hiS_tb, Nat.zero_testBit]
  by_cases g : k < B.1 11
  · cases hg : goodB B k
    · rw [Bool.false_and, Bool.and_false]
    · have := idx_lt g hg
      rw [decide_eq_false (show ¬ gN B ≤ idx B k by unfold gN; omega), Bool.and_false, Bool.and_false]
  · rw [decide_eq_false g]; rfl
theorem wi_sub (nr : Bool) (i : Nat) : subN (wiS B nr i) (hiS B i) := fun k hk => by
  rw [wiS_tb, Bool.and_eq_true, Bool.and_eq_true] at hk
  rw [hiS_tb, hk.1, hk.2.1]; rfl
theorem wi_full (nr : Bool) : wiS B nr (gN B) = 0 := by
  have := sub_leN (wi_sub (B := B) nr (gN B))
  rw [hi_full] at this
  omega
theorem hi_good (i : Nat) : subN (hiS B i) (goodS B) := fun k hk => by
  rw [hiS_tb, Bool.and_eq_true, Bool.and_eq_true] at hk
  rw [goodS_tb, hk.1, hk.2.1]; rfl
theorem lo_good (i : Nat) : subN (loS B i) (goodS B) := fun k hk => by
  rw [loS_tb, Bool.and_eq_true, Bool.and_eq_true] at hk
  rw [goodS_tb, hk.1, hk.2.1]; rfl
theorem goodS_lt11 : goodS B < 2 ^ B.1 11 := bitsF_lt _ _
section
variable {p : Nat} (hp : p < B.1 11) (hg : goodB B p = true)
theorem lo_bit (hp : p < B.1 11) (hg : goodB B p = true) : loS B (idx B p + 1) = loS B (idx B p) ||| 2 ^ p ∧ (loS B (idx B p)).testBit p = false := by
  have h2 : (loS B (idx B p)).testBit p = false := by rw [loS_tb, decide_eq_false (Nat.lt_irrefl _), Bool.and_false, Bool.and_false]
  refine ⟨?_, h2⟩
  apply Nat.eq_of_testBit_eq
  intro k
  rw [Nat.testBit_or, loS_tb, loS_tb, Nat.testBit_two_pow]
  by_cases e : p = k
  · subst e
    rw [decide_eq_true hp, hg, decide_eq_true (Nat.lt_succ_self _)]; simp
  · rw [decide_eq_false e, Bool.or_false]
    cases hk : goodB B k
    · rfl
    · have : idx B k ≠ idx B p := fun z => e (idx_one hg hk z.symm)
      rw [show decide (idx B k < idx B p + 1) = decide (idx B k < idx B p) from decide_eq_decide.mpr (by omega)]
theorem hi_bit (hp : p < B.1 11) (hg : goodB B p = true) : hiS B (idx B p) = 2 ^ p ||| hiS B (idx B p + 1) ∧ (hiS B (idx B p + 1)).testBit p = false := by
  have h2 : (hiS B (idx B p + 1)).testBit p = false := by rw [hiS_tb, decide_eq_false (show ¬ idx B p + 1 ≤ idx B p by omega), Bool.and_false, Bool.and_false]
  refine ⟨?_, h2⟩
  apply Nat.eq_of_testBit_eq
  intro k
  rw [Nat.testBit_or, hiS_tb, hiS_tb, Nat.testBit_two_pow]
  by_cases e : p = k
  · subst e
    rw [decide_eq_true hp, hg, decide_eq_true (Nat.le_refl _)]; simp
  · rw [decide_eq_false e, Bool.false_or]
    cases hk : goodB B k
    · rfl
    · have : idx B k ≠ idx B p := fun z => e (idx_one hg hk z.symm)
      rw [show decide (idx B p ≤ idx B k) = decide (idx B p + 1 ≤ idx B k) from decide_eq_decide.mpr (by omega)]
theorem wi_bit (nr : Bool) (hp : p < B.1 11) (hg : goodB B p = true) : wiS B nr (idx B p) = (if 0 < mk B nr p then 2 ^ p else 0) ||| wiS B nr (idx B p + 1) ∧ (wiS B nr (idx B p + 1)).testBit p = false := by
  have h2 : (wiS B nr (idx B p + 1)).testBit p = false := by
    cases e : (wiS B nr (idx B p + 1)).testBit p
    · rfl
    · rw [(hi_bit hp hg).2.symm.trans (wi_sub nr _ p e)]
  refine ⟨?_, h2⟩
  apply Nat.eq_of_testBit_eq
  intro k
  rw [Nat.testBit_or, wiS_tb, wiS_tb]
  by_cases e : p = k
  · subst e
    rw [decide_eq_true hp, hg, decide_eq_true (Nat.le_refl _), decide_eq_false (show ¬ idx B p + 1 ≤ idx B p by omega)]
    by_cases z : 0 < mk B nr p
    · rw [if_pos z, Nat.testBit_two_pow_self, decide_eq_true z]; rfl
    · rw [if_neg z, decide_eq_false z, Nat.zero_testBit]; rfl
  · have e0 : (if 0 < mk B nr p then 2 ^ p else 0).testBit k = false := by
      split
      · rw [Nat.testBit_two_pow]; exact decide_eq_false e
      · exact Nat.zero_testBit k
    rw [e0, Bool.false_or]
    cases hk : goodB B k
    · rfl
    · have : idx B k ≠ idx B p := fun z => e (idx_one hg hk z.symm)
      rw [show decide (idx B p ≤ idx B k) = decide (idx B p + 1 ≤ idx B k) from decide_eq_decide.mpr (by omega)]
end
/-! sums over disjoint sets -/
def dis (S T : Nat) : Prop := ∀ i, S.testBit i = true → T.testBit i = false
theorem times_or {S T : Nat} (h : dis S T) (c n : Nat) : timesB B (S ||| T) c n = timesB B S c n + timesB B T c n := by
  unfold timesB
  rw [← fb_ct_or]
  · refine fb_ct_cong (fun k _ => ?_)
    rw [Nat.testBit_or]
    cases S.testBit k <;> cases T.testBit k <;> cases (seenB B k).testBit c <;> rfl
  · intro k _ hk
    rw [Bool.and_eq_true, Bool.and_eq_true] at hk
    have := h k hk.1.1
    rw [hk.2.1] at this
    cases this
theorem cL_or {S T : Nat} (h : dis S T) : cL B (S ||| T) = cL B S + cL B T := by
  unfold cL
  rw [dsum_add]
  exact dsum_cong (fun c _ => times_or h c _)
theorem mS_or (nr : Bool) {S T : Nat} (h : dis S T) (n : Nat) : mkS B nr (S ||| T) n = mkS B nr S n + mkS B nr T n := by
  unfold mkS
  rw [← fb_si_add]
  refine fb_si_cong (fun k _ => ?_)
  rw [Nat.testBit_or]
  cases e : S.testBit k
  · cases T.testBit k <;> simp
  · rw [h k e]; simp
theorem times_sub {S T : Nat} (h : subN S T) (c n : Nat) : timesB B S c n ≤ timesB B T c n := fb_ct_sub (fun k _ hk => by
  rw [Bool.and_eq_true] at hk ⊢
  exact ⟨h k hk.1, hk.2⟩)
theorem times_p2 (p c : Nat) (hp : p < B.1 11) : timesB B (2 ^ p) c (B.1 11) = if (seenB B p).testBit c then 1 else 0 := by
  have : ∀ n, timesB B (2 ^ p) c n = if p < n then (if (seenB B p).testBit c then 1 else 0) else 0 := fun n => by
    induction n with
    | zero => rfl
    | succ n ih =>
      rw [timesB_succ, ih, Nat.testBit_two_pow]
      by_cases e : p = n
      · subst e; simp
      · by_cases g : p < n
        · have : p < n + 1 := by omega
          simp [g, this, e]
        · have : ¬ p < n + 1 := by omega
          simp [g, this, e]
  rw [this, if_pos hp]
theorem mS_p2 (nr : Bool) (p : Nat) (hp : p < B.1 11) : mkS B nr (2 ^ p) (B.1 11) = mk B nr p := by
  have : ∀ n, mkS B nr (2 ^ p) n = if p < n then mk B nr p else 0 := fun n => by
    induction n with
    | zero => rfl
    | succ n ih =>
      have e1 : mkS B nr (2 ^ p) (n + 1) = mkS B nr (2 ^ p) n + (if (2 ^ p).testBit n then mk B nr n else 0) := rfl
      rw [e1, ih, Nat.testBit_two_pow]
      by_cases e : p = n
      · subst e; simp
      · by_cases g : p < n
        · have : p < n + 1 := by omega
          simp [g, this, e]
        · have : ¬ p < n + 1 := by omega
          simp [g, this, e]
  rw [this, if_pos hp]
theorem si_0 : ∀ n, fb_si (fun _ => (0 : Int)) n = 0
  | 0 => rfl
  | n + 1 => by rw [fb_si_succ, si_0 n]; rfl
theorem mS_0 (nr : Bool) (n : Nat) : mkS B nr 0 n = 0 := by
  unfold mkS
  rw [show (fun p => if (0 : Nat).testBit p then mk B nr p else 0) = fun _ => (0 : Int) from funext (fun p => by rw [Nat.zero_testBit]; rfl)]
  exact si_0 n
theorem times_0 (c n : Nat) : timesB B 0 c n = 0 := fb_ct_zero.mpr (fun k _ => by rw [Nat.zero_testBit]; rfl)
theorem cL_0 : cL B 0 = 0 := by
  unfold cL
  rw [show (fun c => timesB B 0 c (B.1 11)) = fun _ => 0 from funext (fun c => times_0 c _)]
  decide
theorem cL_digit (hv : InvB B) (S : Nat) : ∀ c, c < 16 → timesB B S c (B.1 11) < 16 := fun c _ => by
  have := timesB_le B S c (B.1 11)
  have := hv.np
  omega
/-! the sets between -/
theorem Sc_lo {i S T : Nat} (h : Sc B i S T) : subN S (loS B i) ∧ subN S T ∧ subN T (S ||| hiS B i) ∧ subN T (goodS B) := by
  have hT := sub_and h.1
  refine ⟨fun k hk => ?_, fun k hk => ?_, fun k hk => ?_, hT⟩
  · rw [← h.2, Nat.testBit_and, Bool.and_eq_true] at hk
    exact hk.2
  · rw [← h.2, Nat.testBit_and, Bool.and_eq_true] at hk
    exact hk.1
  · rw [Nat.testBit_or]
    have hg := hT k hk
    rw [goodS_tb, Bool.and_eq_true] at hg
    by_cases z : idx B k < i
    · rw [← h.2, Nat.testBit_and, hk, loS_tb, hg.1, hg.2, decide_eq_true z]; rfl
    · rw [hiS_tb, hg.1, hg.2, decide_eq_true (by omega)]; simp
theorem lo_hi_dis {i S : Nat} (h : subN S (loS B i)) : dis S (hiS B i) := fun k hk => by
  have := h k hk
  rw [loS_tb, Bool.and_eq_true, Bool.and_eq_true] at this
  have hl := of_decide_eq_true this.2.2
  rw [hiS_tb, decide_eq_false (show ¬ i ≤ idx B k by omega), Bool.and_false, Bool.and_false]
theorem lo_wi_dis (nr : Bool) {i S : Nat} (h : subN S (loS B i)) : dis S (wiS B nr i) := fun k hk => by
  have := lo_hi_dis h k hk
  cases e : (wiS B nr i).testBit k
  · rfl
  · rw [wi_sub nr i k e] at this
    cases this
section
variable {p : Nat}
theorem Sc_split (hp : p < B.1 11) (hg : goodB B p = true) {S : Nat} (hS : subN S (loS B (idx B p))) (T : Nat) : (Sc B (idx B p) S T ∧ T.testBit p = true ↔ Sc B (idx B p + 1) (S ||| 2 ^ p) T) ∧ (Sc B (idx B p) S T ∧ T.testBit p = false ↔ Sc B (idx B p + 1) S T) := by
  obtain ⟨e1, e2⟩ := lo_bit hp hg
  have hSp : S.testBit p = false := by
    cases e : S.testBit p
    · rfl
    · rw [hS p e] at e2; cases e2
  have tb : ∀ k, (T &&& loS B (idx B p + 1)).testBit k = (T.testBit k && ((loS B (idx B p)).testBit k || decide (p = k))) := fun k => by rw [Nat.testBit_and, e1, Nat.testBit_or, Nat.testBit_two_pow]
  have back : ∀ S', T &&& loS B (idx B p + 1) = S' → (∀ k, p ≠ k → S'.testBit k = S.testBit k) → T &&& loS B (idx B p) = S := fun S' h1 h2 => by
    apply Nat.eq_of_testBit_eq
    intro k
    rw [Nat.testBit_and]
    by_cases e : p = k
    · subst e; rw [e2, hSp, Bool.and_false]
    · have := tb k
      rw [h1, h2 k e, decide_eq_false e, Bool.or_false] at this
      exact this.symm
  constructor
  · constructor
    · rintro ⟨⟨h1, h2⟩, h3⟩
      refine ⟨h1, ?_⟩
      apply Nat.eq_of_testBit_eq
      intro k
      rw [tb, Nat.testBit_or, Nat.testBit_two_pow, ← h2, Nat.testBit_and]
      by_cases e : p = k
      · subst e; rw [h3]; simp
      · rw [decide_eq_false e, Bool.or_false, Bool.or_false]
    · rintro ⟨h1, h2⟩
      refine ⟨⟨h1, back _ h2 (fun k hk => by rw [Nat.testBit_or, Nat.testBit_two_pow, decide_eq_false hk, Bool.or_false])⟩, ?_⟩
      have := tb p
      rw [h2, (add_bit hSp).2, decide_eq_true rfl, Bool.or_true, Bool.and_true] at this
      exact this.symm
  · constructor
    · rintro ⟨⟨h1, h2⟩, h3⟩
      refine ⟨h1, ?_⟩
      apply Nat.eq_of_testBit_eq
      intro k
      rw [tb, ← h2, Nat.testBit_and]
      by_cases e : p = k
      · subst e; rw [h3]; rfl
      · rw [decide_eq_false e, Bool.or_false]
    · rintro ⟨h1, h2⟩
      refine ⟨⟨h1, back _ h2 (fun k hk => rfl)⟩, ?_⟩
      have := tb p
      rw [h2, hSp, decide_eq_true rfl, Bool.or_true, Bool.and_true] at this
      exact this.symm
end
theorem Sc_end {S T : Nat} (h : Sc B (gN B) S T) : T = S := by
  have := h.2
  rw [lo_full, h.1] at this
  exact this
/-- fitting, by the two tests -/
theorem all_16 (hv : InvB B) {c : Nat} (h : (allB B).testBit c = true) : c < 16 := tb_ltp (allB_lt hv) h
theorem times_no {c : Nat} (S : Nat) (h : (allB B).testBit c = false) : timesB B S c (B.1 11) = 0 := fb_ct_zero.mpr (fun k hk => by
  cases e : (seenB B k).testBit c
  · rw [Bool.and_false]
  · have : (allB B).testBit c = true := (orN_tb _ _ _).mpr ⟨k, hk, e⟩
    rw [h] at this
    cases this)
def above (B : Bk) (S : Nat) : Bool := anyF (fun c => decide (B.1 14 < timesB B S c (B.1 11))) 16
def ncD (B : Bk) : Nat → Nat := fun c => if (allB B).testBit c then 0 else 15
def below (B : Bk) (S : Nat) : Bool := anyF (fun c => decide ((timesB B S c (B.1 11) ||| ncD B c) < B.1 13)) 16
theorem above_no (hv : InvB B) {S : Nat} : above B S = false ↔ ∀ c, (allB B).testBit c = true → timesB B S c (B.1 11) ≤ B.1 14 := by
  constructor
  · intro h c hc
    rcases Nat.lt_or_ge (B.1 14) (timesB B S c (B.1 11)) with g | g
    · rw [show above B S = true from (anyF_iff _ _).mpr ⟨c, all_16 hv hc, decide_eq_true g⟩] at h
      cases h
    · exact g
  · intro h
    cases e : above B S
    · rfl
    · obtain ⟨c, hc, hb⟩ := (anyF_iff _ _).mp e
      have hb := of_decide_eq_true hb
      cases ha : (allB B).testBit c
      · rw [times_no S ha] at hb
        omega
      · have := h c ha
        omega
theorem below_no (hv : InvB B) {S : Nat} : below B S = false ↔ ∀ c, (allB B).testBit c = true → B.1 13 ≤ timesB B S c (B.1 11) := by
  have hl := hv.low
  constructor
  · intro h c hc
    rcases Nat.lt_or_ge (timesB B S c (B.1 11)) (B.1 13) with g | g
    · rw [show below B S = true from (anyF_iff _ _).mpr ⟨c, all_16 hv hc, decide_eq_true (by unfold ncD; rw [if_pos hc, Nat.or_zero]; exact g)⟩] at h
      cases h
    · exact g
  · intro h
    cases e : below B S
    · rfl
    · obtain ⟨c, hc, hb⟩ := (anyF_iff _ _).mp e
      have hb := of_decide_eq_true hb
      unfold ncD at hb
      cases ha : (allB B).testBit c
      · rw [ha, times_no S ha] at hb
        have hb : (0 ||| 15) < B.1 13 := hb
        rw [Nat.zero_or] at hb
        omega
      · rw [ha, if_pos rfl, Nat.or_zero] at hb
        have := h c ha
        omega
theorem fits_iff (hv : InvB B) {S : Nat} : fits B S ↔ (above B S = false ∧ below B S = false) := by
  rw [above_no hv, below_no hv]
  exact ⟨fun h => ⟨fun c hc => (h c hc).2, fun c hc => (h c hc).1⟩, fun h c hc => ⟨h.2 c hc, h.1 c hc⟩⟩
theorem why_fits (hv : InvB B) {S : Nat} : whyB B S = 0 ↔ fits B S := by
  have h16 := hv.nc
  have hall : ∀ c, (allB B).testBit c = true → c < B.1 2 := fun c hc => by
    obtain ⟨k, hk, hb⟩ := (orN_tb _ _ _).mp hc
    have hs : seenB B k ≠ 0 := fun e => by rw [e, Nat.zero_testBit] at hb; cases hb
    have hg : goodB B k = true := by
      cases e : goodB B k
      · exact absurd ((seenB_0 k).mpr e) hs
      · rfl
    unfold seenB at hb
    rw [if_pos hg] at hb
    unfold shownB at hb
    have : orF (may B k) (fun f => B.2 7 (8 * k + f)) (B.2 6 k) < 2 ^ B.1 2 := orF_lt _ (fun f hf => hv.whoc k f hf)
    exact tb_ltp this hb
  unfold whyB
  constructor
  · intro h c hc
    cases e1 : anyF (lessF B S) (B.1 2)
    · rw [e1, if_neg (by decide)] at h
      cases e2 : anyF (muchF B S) (B.1 2)
      · have n1 : lessF B S c = false := by
          cases e : lessF B S c
          · rfl
          · rw [(anyF_iff _ _).mpr ⟨c, hall c hc, e⟩] at e1; cases e1
        have n2 : muchF B S c = false := by
          cases e : muchF B S c
          · rfl
          · rw [(anyF_iff _ _).mpr ⟨c, hall c hc, e⟩] at e2; cases e2
        unfold lessF at n1
        unfold muchF at n2
        rw [hc, Bool.true_and, decide_eq_false_iff_not] at n1 n2
        omega
      · rw [e2] at h; cases h
    · rw [e1] at h; cases h
  · intro h
    have e1 : anyF (lessF B S) (B.1 2) = false := by
      cases e : anyF (lessF B S) (B.1 2)
      · rfl
      · obtain ⟨c, -, hb⟩ := (anyF_iff _ _).mp e
        unfold lessF at hb
        rw [Bool.and_eq_true] at hb
        have := h c hb.1
        have := of_decide_eq_true hb.2
        omega
    have e2 : anyF (muchF B S) (B.1 2) = false := by
      cases e : anyF (muchF B S) (B.1 2)
      · rfl
      · obtain ⟨c, -, hb⟩ := (anyF_iff _ _).mp e
        unfold muchF at hb
        rw [Bool.and_eq_true] at hb
        have := h c hb.1
        have := of_decide_eq_true hb.2
        omega
    rw [e1, e2]
    rfl
/-- nothing between fits any more -/
theorem lost_no (hv : InvB B) {i S T : Nat} (h : Sc B i S T) (hl : above B S = true ∨ below B (S ||| hiS B i) = true) : ¬ fits B T := fun hf => by
  obtain ⟨-, s2, s3, -⟩ := Sc_lo h
  have hf' := (fits_iff hv).mp hf
  rcases hl with g | g
  · have : above B S = false := (above_no hv).mpr (fun c hc => Nat.le_trans (times_sub s2 c _) ((above_no hv).mp hf'.1 c hc))
    rw [g] at this; cases this
  · have : below B (S ||| hiS B i) = false := (below_no hv).mpr (fun c hc => Nat.le_trans ((below_no hv).mp hf'.2 c hc) (times_sub s3 c _))
    rw [g] at this; cases this
end
