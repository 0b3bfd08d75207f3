/-! choices -/
def scB (B : Bk) (i S T : Nat) : Bool := decide (T &&& goodS B = T) && decide (T &&& loS B i = S)
def fitb (B : Bk) (T : Nat) : Bool := !above B T && !below B T
def ctF (B : Bk) (i S : Nat) : Nat := fb_ct (fun T => scB B i S T && fitb B T) (2 ^ B.1 11)
section
variable {B : Bk}
theorem scB_iff {i S T : Nat} : scB B i S T = true ↔ Sc B i S T := by
  unfold scB Sc
  rw [Bool.and_eq_true, decide_eq_true_eq, decide_eq_true_eq]
theorem fitb_iff (hv : InvB B) {T : Nat} : fitb B T = true ↔ fits B T := by
  rw [fits_iff hv]
  unfold fitb
  cases above B T <;> cases below B T <;> simp
section
variable {p : Nat}
theorem scB_split (hp : p < B.1 11) (hg : goodB B p = true) {S : Nat} (hS : subN S (loS B (idx B p))) (T : Nat) : scB B (idx B p) S T = (scB B (idx B p + 1) S T || scB B (idx B p + 1) (S ||| 2 ^ p) T) ∧ ¬ (scB B (idx B p + 1) S T = true ∧ scB B (idx B p + 1) (S ||| 2 ^ p) T = true) := by
  obtain ⟨h1, h2⟩ := Sc_split hp hg hS T
  constructor
  · rw [Bool.eq_iff_iff, Bool.or_eq_true, scB_iff, scB_iff, scB_iff, ← h1, ← h2]
    cases T.testBit p <;> simp
  · rintro ⟨a, b⟩
    rw [scB_iff, ← h2] at a
    rw [scB_iff, ← h1] at b
    rw [a.2] at b
    cases b.2
theorem ctF_split (hp : p < B.1 11) (hg : goodB B p = true) {S : Nat} (hS : subN S (loS B (idx B p))) : ctF B (idx B p) S = ctF B (idx B p + 1) S + ctF B (idx B p + 1) (S ||| 2 ^ p) := by
  unfold ctF
  rw [← fb_ct_or]
  · refine fb_ct_cong (fun T _ => ?_)
    rw [(scB_split hp hg hS T).1]
    cases scB B (idx B p + 1) S T <;> cases scB B (idx B p + 1) (S ||| 2 ^ p) T <;> cases fitb B T <;> rfl
  · intro T _ h
    rw [Bool.and_eq_true, Bool.and_eq_true] at h
    exact (scB_split hp hg hS T).2 ⟨h.1.1, h.2.1⟩
theorem lo_next (hp : p < B.1 11) (hg : goodB B p = true) {S : Nat} (hS : subN S (loS B (idx B p))) : subN S (loS B (idx B p + 1)) ∧ subN (S ||| 2 ^ p) (loS B (idx B p + 1)) ∧ dis S (2 ^ p) := by
  obtain ⟨e1, e2⟩ := lo_bit hp hg
  rw [e1]
  refine ⟨fun k hk => by rw [Nat.testBit_or, hS k hk]; rfl, fun k hk => ?_, fun k hk => ?_⟩
  · rw [Nat.testBit_or, Bool.or_eq_true] at hk ⊢
    exact hk.imp (hS k) id
  · rw [Nat.testBit_two_pow]
    refine decide_eq_false (fun e => ?_)
    subst e
    rw [hS p hk] at e2
    cases e2
end
theorem ct_one : ∀ {n S : Nat}, S < n → fb_ct (fun T => decide (T = S)) n = 1
  | 0, S, h => absurd h (Nat.not_lt_zero S)
  | n + 1, S, h => by
    rw [fb_ct_succ]
    by_cases e : n = S
    · subst e
      have z : fb_ct (fun T => decide (T = n)) n = 0 := fb_ct_zero.mpr (fun k hk => decide_eq_false (by omega))
      rw [z, decide_eq_true rfl]
      rfl
    · rw [ct_one (by omega), decide_eq_false e]
      rfl
theorem lo_lt11 (i : Nat) : loS B i < 2 ^ B.1 11 := bitsF_lt _ _
theorem nSc : ∀ d i S, i + d = gN B → subN S (loS B i) → fb_ct (fun T => scB B i S T) (2 ^ B.1 11) = 2 ^ d
  | 0, i, S, e, hS => by
    have e : i = gN B := by omega
    subst e
    rw [fb_ct_cong (q := fun T => decide (T = S)) (fun T _ => ?_)]
    · rw [ct_one (sub_lt hS (lo_lt11 _))]
    · show scB B (gN B) S T = decide (T = S)
      rw [Bool.eq_iff_iff, scB_iff, decide_eq_true_eq]
      refine ⟨Sc_end, fun e => ?_⟩
      subst e
      rw [lo_full] at hS
      exact ⟨and_sub hS, by rw [lo_full]; exact and_sub hS⟩
  | d + 1, i, S, e, hS => by
    obtain ⟨p, hp, hg, ei⟩ := idx_at (B := B) (i := i) (by omega)
    subst ei
    obtain ⟨l1, l2, -⟩ := lo_next hp hg hS
    have i1 := nSc d (idx B p + 1) S (by omega) l1
    have i2 := nSc d (idx B p + 1) (S ||| 2 ^ p) (by omega) l2
    have e1 : fb_ct (fun T => scB B (idx B p) S T) (2 ^ B.1 11) = fb_ct (fun T => scB B (idx B p + 1) S T || scB B (idx B p + 1) (S ||| 2 ^ p) T) (2 ^ B.1 11) := fb_ct_cong (fun T _ => (scB_split hp hg hS T).1)
    rw [e1, fb_ct_or (fun T _ => (scB_split hp hg hS T).2), i1, i2, Nat.pow_succ]
    omega
theorem ctF_0 {i S : Nat} (h : ∀ T, Sc B i S T → fitb B T = false) : ctF B i S = 0 := fb_ct_zero.mpr (fun T _ => by
  cases e : scB B i S T
  · rfl
  · rw [h T (scB_iff.mp e)]; rfl)
theorem ctF_all {i S : Nat} (hi : i ≤ gN B) (hS : subN S (loS B i)) (h : ∀ T, Sc B i S T → fitb B T = true) : ctF B i S = 2 ^ (gN B - i) := by
  rw [← nSc (gN B - i) i S (by omega) hS]
  exact fb_ct_cong (fun T _ => by
    cases e : scB B i S T
    · rfl
    · rw [h T (scB_iff.mp e)]; rfl)
theorem ctF_le (hv : InvB B) (i S : Nat) : ctF B i S ≤ 2 ^ 14 := Nat.le_trans (fb_ct_le _ _) (p2_14 hv.np)
/-! the tests -/
variable {nr : Bool} {I : Nat → Int32} {J : Nat → Int64} {R : Nat → Nat → Int32} {G : Nat → Nat → Int64}
theorem ChS.of {I' : Nat → Int32} {J' : Nat → Int64} (h : ChS B nr I J R G) (h0 : I' 0 = I 0) (h1 : I' 1 = I 1) (h2 : I' 2 = I 2) (h3 : J' 10 = J 10) : ChS B nr I' J' R G := by
  obtain ⟨⟨⟨a1, a2, a3, a4⟩, a5⟩, a6⟩ := h
  exact ⟨⟨⟨h0.trans a1, h1.trans a2, h2.trans a3, h3.trans a4⟩, a5⟩, a6⟩
theorem ChS.i2 (h : ChS B nr I J R G) : I 2 = nI (gN B) := h.1.1.2.2.1
theorem sAbove (hv : InvB B) (h : ChS B nr I J R G) (S : Nat) : qX0_someAbove (fun r => r = b2i (above B S)) (lN (cL B S)) I J R G := sX0_someAbove (cL_digit hv S) hv.high h.1.1.2.1
theorem sBelow (hv : InvB B) (h : ChS B nr I J R G) (S : Nat) : qX0_someBelow (fun r => r = b2i (below B S)) (lN (cL B S)) I J R G := sX0_someBelow (cL_digit hv S) (ncU_lt (allB B)) hv.low h.1.1.1 h.1.1.2.2.2
theorem sLost (hv : InvB B) (h : ChS B nr I J R G) {i S : Nat} (hi : i ≤ gN B) (hS : subN S (loS B i)) : qX0_isLost (fun r => r = b2i (above B S || below B (S ||| hiS B i))) (nI i) (lN (cL B S)) I J R G := by
  have hm := gN_le hv
  refine ⟨_, sAbove hv h S, fun rc hrc => ⟨fun c => ?_, fun c => ⟨vp_in_nI (by omega) (by decide), ?_⟩⟩⟩
  · rw [hrc, b2i_n0] at c
    show (1 : Int32) = _
    rw [c]; rfl
  · rw [hrc, b2i_0] at c
    rw [nI_clamp (by omega), (h.2 i (Nat.zero_le _) hi).1, lN_add, ← cL_or (lo_hi_dis hS)]
    refine ⟨_, sBelow hv h _, fun rc3 hrc3 => ⟨fun c3 => ?_, fun c3 => ?_⟩⟩
    · rw [hrc3, b2i_0] at c3
      show (0 : Int32) = _
      rw [c, c3]; rfl
    · rw [hrc3, b2i_n0] at c3
      show (1 : Int32) = _
      rw [c, c3]; rfl
theorem sX0_fitting (hv : InvB B) (h : ChS B nr I J R G) : ∀ d i S, gN B < d + i → i ≤ gN B → subN S (loS B i) → qX0_fittingFrom d (fun r => r = nI (ctF B i S)) (nI i) (lN (cL B S)) I J R G
  | 0, i, S, hd, hi, _ => by omega
  | d + 1, i, S, hd, hi, hS => by
    have hm := gN_le hv
    have fiti : ∀ {T}, fitb B T = true ↔ fits B T := fitb_iff hv
    have next : (¬ fits B S ∨ i < gN B) → qX0_fittingFrom_51 (qX0_fittingFrom d) (fun r => r = nI (ctF B i S)) (nI i) (lN (cL B S)) I J R G := fun hor => by
      refine kX0_fittingFrom_51 ?_
      rw [h.i2, nI_ltI (by omega) (by omega)]
      refine ⟨fun c => ?_, fun c => ?_⟩
      · obtain ⟨p, hp, hg, ei⟩ := idx_at (B := B) (i := i) c
        subst ei
        obtain ⟨l1, l2, l3⟩ := lo_next hp hg hS
        have c1 := ctF_le hv (idx B p + 1) S
        rw [nI_1]
        refine ⟨_, sX0_fitting hv h d (idx B p + 1) S (by omega) (by omega) l1, fun rc hrc => ⟨vp_in_nI (by omega) (by decide), ?_⟩⟩
        rw [nI_clamp (by omega), (h.1.2 p hp hg).2.1, lN_add, ← cL_or l3]
        refine ⟨_, sX0_fitting hv h d (idx B p + 1) (S ||| 2 ^ p) (by omega) (by omega) l2, fun rc2 hrc2 => ?_⟩
        show rc + rc2 = _
        rw [hrc, hrc2, nI_add, ctF_split hp hg hS]
      · have ei : i = gN B := by omega
        show (0 : Int32) = _
        have hnf : ¬ fits B S := hor.resolve_right c
        rw [ctF_0 (fun T hT => by
          subst ei
          rw [Sc_end hT]
          cases e : fitb B S
          · rfl
          · exact absurd (fiti.mp e) hnf)]
        rfl
    refine ⟨fun c => ?_, fun _ => ⟨_, sLost hv h hi hS, fun rc hrc => ⟨fun c => ⟨_, sBelow hv h S, fun rc2 hrc2 => ⟨fun c2 => next (Or.inl ?_), fun c2 => ⟨vp_in_nI (by omega) (by decide), ?_⟩⟩⟩, fun c => ?_⟩⟩⟩
    · rw [h.i2, nI_ltI (by omega) (by omega)] at c
      omega
    · rw [hrc2, b2i_n0] at c2
      intro hf
      have := ((fits_iff hv).mp hf).2
      rw [c2] at this; cases this
    · rw [hrc2, b2i_0] at c2
      rw [nI_clamp (by omega), (h.2 i (Nat.zero_le _) hi).1, lN_add, ← cL_or (lo_hi_dis hS)]
      refine ⟨_, sAbove hv h _, fun rc4 hrc4 => ⟨fun c4 => next ?_, fun c4 => ?_⟩⟩
      · rw [hrc4, b2i_n0] at c4
        by_cases g : i < gN B
        · exact Or.inr g
        · refine Or.inl (fun hf => ?_)
          have ei : i = gN B := by omega
          rw [ei, hi_full, Nat.or_zero] at c4
          have := ((fits_iff hv).mp hf).1
          rw [c4] at this; cases this
      · rw [hrc4, b2i_0] at c4
        have hd2 : nI (gN B) - nI i = nI (gN B - i) := pk_sub hi
        show (1 : Int32) <<< ((I 2 - nI i) &&& 31) = nI (ctF B i S)
        rw [h.i2, hd2, tb_shl _ (by omega), ctF_all hi hS (fun T hT => fiti.mpr (fun c hc => ?_))]
        obtain ⟨-, s2, s3, -⟩ := Sc_lo hT
        exact ⟨Nat.le_trans ((below_no hv).mp c2 c hc) (times_sub s2 c _), Nat.le_trans (times_sub s3 c _) ((above_no hv).mp c4 c hc)⟩
    · rw [hrc, b2i_n0, Bool.or_eq_true] at c
      show (0 : Int32) = _
      rw [ctF_0 (fun T hT => by
        cases e : fitb B T
        · rfl
        · exact absurd (fiti.mp e) (lost_no hv hT c))]
      rfl
/-! the reference -/
def ctR (B : Bk) (s : Nat) : Nat := fb_ct (fun T => decide (T &&& goodS B = T) && fitb B T) s
theorem and_z {s g : Nat} : andN s g = 0 ↔ s &&& g = s := by
  constructor
  · intro h
    apply Nat.eq_of_testBit_eq
    intro k
    have : (andN s g).testBit k = false := by rw [h, Nat.zero_testBit]
    rw [andN_tb] at this
    rw [Nat.testBit_and]
    cases hs : s.testBit k
    · rfl
    · rw [hs] at this
      simpa using this
  · intro h
    apply Nat.eq_of_testBit_eq
    intro k
    have : (s &&& g).testBit k = s.testBit k := by rw [h]
    rw [Nat.testBit_and] at this
    rw [andN_tb, Nat.zero_testBit]
    cases hs : s.testBit k
    · rfl
    · rw [hs] at this
      simp at this
      rw [this]; rfl
theorem whyB_le (S : Nat) : whyB B S ≤ 3 := by
  unfold whyB
  split
  · decide
  · split <;> decide
theorem lX4_choices (hv : InvB B) (h : Tk B I R) : ∀ m s, s + m = 2 ^ B.1 11 → qX4_choices_18 (pQ B (nI (ctR B (2 ^ B.1 11)))) (nI (goodS B)) (nI (ctR B s)) (nI s) I R
  | 0, s, e => by
    have hn := hv.np
    have hp := tb_p2 (k := B.1 11) (by omega)
    have e : s = 2 ^ B.1 11 := by omega
    subst e
    refine kX4_choices_18 ⟨fun _ => ⟨rfl, h.1⟩, fun c => ?_⟩
    rw [h.1.i11, tb_shl _ (by omega), nI_leI (by omega) (by omega)] at c
    omega
  | m + 1, s, e => by
    have hn := hv.np
    have hp14 := p2_14 hn
    have hw := whyB_le (B := B) s
    have ha : andN s (goodS B) < 2 ^ 31 := andN_lt (by omega)
    have ih := lX4_choices hv h m (s + 1) (by omega)
    have es : ctR B (s + 1) = ctR B s + (if decide (s &&& goodS B = s) && fitb B s then 1 else 0) := rfl
    rw [es, ← nI_1] at ih
    have no : (decide (s &&& goodS B = s) && fitb B s) = false → qX4_choices_18 (pQ B (nI (ctR B (2 ^ B.1 11)))) (nI (goodS B)) (nI (ctR B s)) (nI s + 1) I R := fun g => by
      rw [g, if_neg (by decide), Nat.add_zero] at ih
      exact ih
    refine kX4_choices_18 ⟨fun c => ?_, fun _ => ⟨fun c => no ?_, fun c => ⟨_, sX4_why h hv (by omega), fun rc hrc => ⟨fun c2 => no ?_, fun c2 => ?_⟩⟩⟩⟩
    · rw [h.1.i11, tb_shl _ (by omega), nI_leI (by omega) (by omega)] at c
      omega
    · rw [tb_andN, nI_z ha, and_z] at c
      rw [decide_eq_false c]; rfl
    · rw [hrc, nI_z (by omega), why_fits hv] at c2
      cases e : fitb B s
      · rw [Bool.and_false]
      · exact absurd ((fitb_iff hv).mp e) c2
    · rw [tb_andN, nI_z ha, and_z] at c
      rw [hrc, nI_z (by omega), why_fits hv] at c2
      rw [decide_eq_true c, (fitb_iff hv).mpr c2, Bool.true_and, if_pos rfl, ← nI_1] at ih
      exact ih
theorem ctR_F : ctR B (2 ^ B.1 11) = ctF B 0 0 := fb_ct_cong (fun T _ => by
  unfold scB
  rw [lo_0, Nat.and_zero, decide_eq_true rfl, Bool.and_true])
end
theorem sub_0 (S : Nat) : subN 0 S := fun i hi => by rw [Nat.zero_testBit] at hi; cases hi
theorem ag_choices : Ag_choices JJ := fun {k c s u v} hk hj => change hj (fun P => qX3_choices P u.1 u.2.1 u.2.2.1 u.2.2.2.1 u.2.2.2.2.1 u.2.2.2.2.2.1 u.2.2.2.2.2.2.1 u.2.2.2.2.2.2.2.1 u.2.2.2.2.2.2.2.2.1 u.2.2.2.2.2.2.2.2.2.1 u.2.2.2.2.2.2.2.2.2.2) (fun P => qX4_choices P v.1 v.2) (fun B => nI (ctF B 0 0)) (fun B => B) (fun B lt hv hg hc => by
    have hm := gN_le hv
    refine ⟨fun I R CI CJ CR CG EI ER Eq En V => RC (I, R, CI, CJ, CR, CG, EI, ER, Eq, En, V) B lt ∧ ChS B false CI CJ CR CG, sX3_offer hc hv false (fun CI CJ CR CG hch => ⟨hc, hch⟩), fun I R CI CJ CR CG EI ER Eq En V hq => ?_⟩
    have e0 : (0 : Int64) = lN (cL B 0) := by rw [cL_0]; rfl
    refine ⟨_, ⟨_, (by rw [e0]; exact sX0_fitting hv hq.2 20 0 0 (by omega) (Nat.zero_le _) (sub_0 _)), fun rc hrc => hrc⟩, fun rc hrc => ⟨hrc, hq.1⟩⟩) (fun B hv hg hm => by
    have h9 := hm.upI (j := 19) (by decide) 0
    refine ⟨_, sX4_good h9 hv, fun rc I1 R1 hr => ?_⟩
    obtain ⟨e1, e2, e3, e4⟩ := hr
    subst e2
    refine ⟨_, sX4_takeSeen e3 hv, fun I2 R2 h2 => ?_⟩
    have e1 : rc = nI (goodS B) := e1
    have key := lX4_choices hv h2 (2 ^ B.1 11) 0 (Nat.zero_add _)
    rw [ctR_F] at key
    rw [e1]
    exact key) (fun B hv hg => ⟨hv, hg, rfl⟩)
