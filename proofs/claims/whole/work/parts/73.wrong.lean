/-! wrong, lacking; takeSeen and why of the reference -/
def allB (B : Bk) : Nat := orN (seenB B) (B.1 11)
def goodS (B : Bk) : Nat := bitsF (goodB B) (B.1 11)
def lessF (B : Bk) (S c : Nat) : Bool := (allB B).testBit c && decide (timesB B S c (B.1 11) < B.1 13)
def muchF (B : Bk) (S c : Nat) : Bool := (allB B).testBit c && decide (B.1 14 < timesB B S c (B.1 11))
def whyB (B : Bk) (S : Nat) : Nat := if anyF (lessF B S) (B.1 2) then 2 else if anyF (muchF B S) (B.1 2) then 3 else 0
theorem orN_lt {g : Nat → Nat} {m : Nat} : ∀ n, (∀ k, k < n → g k < 2 ^ m) → orN g n < 2 ^ m
  | 0, _ => Nat.two_pow_pos m
  | n + 1, h => by
    rw [orN]
    exact Nat.or_lt_two_pow (orN_lt n (fun k hk => h k (by omega))) (h n (by omega))
theorem orN_tb (g : Nat → Nat) (i : Nat) : ∀ n, (orN g n).testBit i = true ↔ ∃ k, k < n ∧ (g k).testBit i = true
  | 0 => by simp [orN]
  | n + 1 => by
    rw [orN, Nat.testBit_or, Bool.or_eq_true, orN_tb g i n]
    constructor
    · rintro (⟨k, h1, h2⟩ | h)
      · exact ⟨k, by omega, h2⟩
      · exact ⟨n, by omega, h⟩
    · rintro ⟨k, h1, h2⟩
      by_cases e : k = n
      · exact Or.inr (e ▸ h2)
      · exact Or.inl ⟨k, by omega, h2⟩
theorem allB_lt {B : Bk} (hv : InvB B) : allB B < 2 ^ 16 := orN_lt _ (fun k _ => seenB_lt hv k)
theorem goodS_lt {B : Bk} (hv : InvB B) : goodS B < 2 ^ 14 := Nat.lt_of_lt_of_le (bitsF_lt _ _) (Nat.pow_le_pow_right (by decide) hv.np)
theorem timesB_le (B : Bk) (S c n : Nat) : timesB B S c n ≤ n := fb_ct_le _ n
def Tk (B : Bk) (I : Nat → Int32) (R : Nat → Nat → Int32) : Prop := RM I R B ∧ I 23 = nI (allB B) ∧ ∀ p, p < B.1 11 → R 22 p = nI (seenB B p)
section
variable {I : Nat → Int32} {R : Nat → Nat → Int32} {CI : Nat → Int32} {CJ : Nat → Int64} {CR : Nat → Nat → Int32} {CG : Nat → Nat → Int64} {EI : Nat → Int32} {ER : Nat → Nat → Int32} {Eq En : Nat} {V : vS} {B : Bk} {lt : Nat}
theorem lX4_takeSeen (hv : InvB B) : ∀ n k, k + n = B.1 11 → ∀ (I : Nat → Int32) (R : Nat → Nat → Int32), RM I R B → I 23 = nI (orN (seenB B) k) → (∀ p, p < k → R 22 p = nI (seenB B p)) → qX4_takeSeen_7 (Tk B) (nI k) I R
  | 0, k, e, I, R, h, h1, h2 => by
    have hn := hv.np
    have e : k = B.1 11 := by omega
    subst e
    refine kX4_takeSeen_7 ⟨fun _ => ⟨h, h1, h2⟩, fun c => ?_⟩
    rw [h.i11, nI_leI (by omega) (by omega)] at c
    omega
  | n + 1, k, e, I, R, h, h1, h2 => by
    have hn := hv.np
    refine kX4_takeSeen_7 ⟨fun c => ?_, fun _ => ⟨_, sX4_seenIn h hv (p := k) (by omega), fun rc I1 R1 hq => ⟨vp_in_nI (by omega) (by decide), fun v ev => ?_⟩⟩⟩
    · rw [h.i11, nI_leI (by omega) (by omega)] at c
      omega
    · obtain ⟨e1, e2, g1, g2⟩ := hq
      rw [pk_us] at ev
      subst e2
      rw [nI_clamp (by omega), nI_1]
      refine lX4_takeSeen hv n (k + 1) (by omega) _ _ ((g1.upR (j := 22) (by decide) _).upI (j := 23) (by decide) _) ?_ (fun p hp => ?_)
      · rw [vu_eq, h1, ev, e1, tb_or]; rfl
      · rw [vu_eq]
        by_cases ep : p = k
        · subst ep; rw [pk_us]; exact e1
        · rw [pk_un ep, g2 22 (by decide)]; exact h2 p (by omega)
theorem sX4_takeSeen (h : RM I R B) (hv : InvB B) : qX4_takeSeen (Tk B) I R := lX4_takeSeen hv _ 0 (Nat.zero_add _) _ R (h.upI (j := 23) (by decide) 0) rfl (fun p hp => absurd hp (Nat.not_lt_zero p))
def muN (B : Bk) (S k : Nat) : Nat := if anyF (muchF B S) k then 3 else 0
def leN (B : Bk) (S k : Nat) : Nat := if anyF (lessF B S) k then 2 else 0
theorem lX4_why37 (h : Tk B I R) (hv : InvB B) {S : Nat} (hS : S < 2 ^ 31) {c : Nat} (hc : c < 31) {x2 x3 : Int32} {post : Int32 → Prop} (h1 : ∀ x3' : Int32, x3' = (if timesB B S c (B.1 11) < B.1 13 then 2 else x3) → qX4_why_90 post (nI S) I R x2 x3' (nI c) (nI (timesB B S c (B.1 11)))) :
    ∀ n k, k + n = B.1 11 → qX4_why_37 post (nI S) I R x2 x3 (nI c) (nI (timesB B S c k)) (nI k)
  | 0, k, e => by
    have hn := hv.np
    have hl := hv.low
    have e : k = B.1 11 := by omega
    subst e
    have ht := timesB_le B S c (B.1 11)
    refine kX4_why_37 ⟨fun _ => ?_, fun c => ?_⟩
    · rw [h.1.i13, nI_leI (by omega) (by omega)]
      exact ⟨fun c => h1 _ (by rw [if_neg (by omega)]), fun c => h1 _ (by rw [if_pos (by omega)])⟩
    · rw [h.1.i11, nI_leI (by omega) (by omega)] at c
      omega
  | n + 1, k, e => by
    have hn := hv.np
    have ih := lX4_why37 h hv hS hc h1 n (k + 1) (by omega)
    rw [← nI_1, timesB_succ] at ih
    refine kX4_why_37 ⟨fun c => ?_, fun _ => ⟨fun c => ?_, fun c9 => ⟨vp_in_nI (by omega) (by decide), fun x5 e5 => ?_⟩⟩⟩
    · rw [h.1.i11, nI_leI (by omega) (by omega)] at c
      omega
    · rw [tb_1 hS (by omega)] at c
      rw [of_not_true c, Bool.false_and, if_neg (by decide), Nat.add_zero] at ih
      exact ih
    · rw [tb_1 hS (by omega)] at c9
      have hs := seenB_lt hv k
      rw [nI_clamp (by omega), h.2.2 k (by omega), tb_bit (by omega) hc] at e5
      rw [c9, Bool.true_and] at ih
      cases hb : (seenB B k).testBit c
      · rw [hb] at ih e5
        rw [if_neg (by decide), Int32.add_zero] at e5
        rw [e5]
        exact ih
      · rw [hb] at ih e5
        have e5 : x5 = nI (timesB B S c k) + 1 := e5
        rw [e5, nI_1]
        exact ih
theorem leN_succ (B : Bk) (S k : Nat) : leN B S (k + 1) = if lessF B S k then 2 else leN B S k := by
  unfold leN
  rw [anyF]
  cases anyF (lessF B S) k <;> cases lessF B S k <;> rfl
theorem muN_succ (B : Bk) (S k : Nat) : muN B S (k + 1) = if muchF B S k then 3 else muN B S k := by
  unfold muN
  rw [anyF]
  cases anyF (muchF B S) k <;> cases muchF B S k <;> rfl
theorem lX4_why (h : Tk B I R) (hv : InvB B) {S : Nat} (hS : S < 2 ^ 31) : ∀ n k, k + n = B.1 2 → qX4_why_7 (fun r => r = nI (whyB B S)) (nI S) I R (nI (muN B S k)) (nI (leN B S k)) (nI k)
  | 0, k, e => by
    have hn := hv.nc
    have e : k = B.1 2 := by omega
    subst e
    refine kX4_why_7 ⟨fun _ => ?_, fun c => ?_⟩
    · unfold whyB leN muN
      cases anyF (lessF B S) (B.1 2)
      · exact ⟨fun _ => rfl, fun c => absurd (by decide) c⟩
      · exact ⟨fun c => absurd c (by decide), fun _ => rfl⟩
    · rw [h.1.i2, nI_leI (by omega) (by omega)] at c
      omega
  | n + 1, k, e => by
    have hn := hv.nc
    have hal := allB_lt hv
    have hh := hv.high
    have ht := timesB_le B S k (B.1 11)
    have hnp := hv.np
    have ih := lX4_why h hv hS n (k + 1) (by omega)
    rw [← nI_1, leN_succ, muN_succ] at ih
    refine kX4_why_7 ⟨fun c => ?_, fun _ => ?_⟩
    · rw [h.1.i2, nI_leI (by omega) (by omega)] at c
      omega
    · rw [h.2.1, tb_0 (by omega) (by omega)]
      refine ⟨fun c => ?_, fun c => ?_⟩
      · have c := of_not_false c
        refine lX4_why37 h hv hS (by omega) (fun x3' e3 => kX4_why_90 ?_) _ 0 (Nat.zero_add _)
        rw [h.1.i14, nI_leI (by omega) (by omega)]
        have e4 : x3' = nI (if lessF B S k then 2 else leN B S k) := by
          rw [e3]
          unfold lessF
          rw [c, Bool.true_and]
          by_cases g : timesB B S k (B.1 11) < B.1 13
          · rw [if_pos g, decide_eq_true g, if_pos rfl]; rfl
          · rw [if_neg g, decide_eq_false g, if_neg (by decide)]
        rw [e4]
        refine ⟨fun g => ?_, fun g => ?_⟩
        · have : muchF B S k = false := by unfold muchF; rw [decide_eq_false (by omega), Bool.and_false]
          rw [this, if_neg (by decide)] at ih
          exact ih
        · have : muchF B S k = true := by unfold muchF; rw [c, decide_eq_true (by omega)]; rfl
          rw [this, if_pos rfl] at ih
          exact ih
      · have g1 : lessF B S k = false := by unfold lessF; rw [c]; rfl
        have g2 : muchF B S k = false := by unfold muchF; rw [c]; rfl
        rw [g1, g2, if_neg (by decide), if_neg (by decide)] at ih
        exact ih
theorem sX4_why (h : Tk B I R) (hv : InvB B) {S : Nat} (hS : S < 2 ^ 31) : qX4_why (fun r => r = nI (whyB B S)) (nI S) I R := lX4_why h hv hS _ 0 (Nat.zero_add _)
theorem lX3_wrong (h : RCc I R EI ER En V B lt) (hv : InvB B) : ∀ n k, k + n = B.1 2 → anyF (lessF B (B.1 16)) k = false → qX3_wrong_25 (fun r => r = nI (whyB B (B.1 16))) I R CI CJ CR CG EI ER Eq En V (nI (allB B)) (b2i (anyF (muchF B (B.1 16)) k)) (nI k)
  | 0, k, e, hk => by
    have hn := hv.nc
    have e : k = B.1 2 := by omega
    subst e
    refine kX3_wrong_25 ⟨fun _ => ?_, fun c => ?_⟩
    · unfold whyB
      rw [hk, if_neg (by decide), b2i_0]
      refine ⟨fun c => ?_, fun c => ?_⟩
      · show (0 : Int32) = _
        rw [c]; rfl
      · show (3 : Int32) = _
        rw [of_not_false c]; rfl
    · rw [h.i2, nI_leI (by omega) (by omega)] at c
      omega
  | n + 1, k, e, hk => by
    have hn := hv.nc
    have hal := allB_lt hv
    have hh := hv.high
    have hl := hv.low
    have ht := timesB_le B (B.1 16) k (B.1 11)
    have hnp := hv.np
    refine kX3_wrong_25 ⟨fun c => ?_, fun _ => ?_⟩
    · rw [h.i2, nI_leI (by omega) (by omega)] at c
      omega
    · rw [tb_0 (by omega) (by omega)]
      refine ⟨fun c => ?_, fun c => ?_⟩
      · have g1 : lessF B (B.1 16) k = false := by unfold lessF; rw [c]; rfl
        have g2 : muchF B (B.1 16) k = false := by unfold muchF; rw [c]; rfl
        have ih := lX3_wrong h hv n (k + 1) (by omega) (by rw [anyF, hk, g1]; rfl)
        rw [← nI_1, anyF, g2, Bool.or_false] at ih
        exact ih
      · have c := of_not_false c
        rw [tb_shl _ (by omega)]
        refine ⟨_, sX3_chosenShowing h hv _, fun rc hrc => ?_⟩
        rw [show_times] at hrc
        rw [hrc, h.low, h.high, nI_leI (by omega) (by omega), nI_leI (by omega) (by omega)]
        refine ⟨fun g => ?_, fun g => ?_⟩
        · have g1 : lessF B (B.1 16) k = false := by unfold lessF; rw [decide_eq_false (by omega), Bool.and_false]
          have ih := lX3_wrong h hv n (k + 1) (by omega) (by rw [anyF, hk, g1]; rfl)
          rw [← nI_1, anyF] at ih
          refine ⟨fun g3 => kX3_wrong_80 (fun x2 e2 => ?_), fun g3 => kX3_wrong_80 (fun x2 e2 => ?_)⟩
          · have g2 : muchF B (B.1 16) k = false := by unfold muchF; rw [decide_eq_false (by omega), Bool.and_false]
            rw [g2, Bool.or_false] at ih
            have e2 : x2 = b2i (anyF (muchF B (B.1 16)) k) := by rw [e2]; cases anyF (muchF B (B.1 16)) k <;> rfl
            rw [e2]
            exact ih
          · have g2 : muchF B (B.1 16) k = true := by unfold muchF; rw [c, decide_eq_true (by omega)]; rfl
            rw [g2, Bool.or_true] at ih
            have e2 : x2 = b2i true := by rw [e2]; cases anyF (muchF B (B.1 16)) k <;> rfl
            rw [e2]
            exact ih
        · have g1 : anyF (lessF B (B.1 16)) (B.1 2) = true := (anyF_iff _ _).mpr ⟨k, by omega, by unfold lessF; rw [c, decide_eq_true (by omega)]; rfl⟩
          show (2 : Int32) = nI (whyB B (B.1 16))
          unfold whyB
          rw [g1]
          rfl
end
def wrongI (B : Bk) : Int32 := if andN (B.1 16) (goodS B) = 0 then nI (whyB B (B.1 16)) else 1
theorem ag_wrong : Ag_wrong JJ := fun {k c s u v} hk hj => query hj (fun P => qX3_wrong P u.1 u.2.1 u.2.2.1 u.2.2.2.1 u.2.2.2.2.1 u.2.2.2.2.2.1 u.2.2.2.2.2.2.1 u.2.2.2.2.2.2.2.1 u.2.2.2.2.2.2.2.2.1 u.2.2.2.2.2.2.2.2.2.1 u.2.2.2.2.2.2.2.2.2.2) (fun P => qX4_wrong P v.1 v.2) wrongI (fun B lt hv hg hc => by
    have hch := ch_lt hv
    have ha := andN_lt (m := goodS B) hch
    refine ⟨_, sX3_goodPictures hc hv, fun rc hrc => ?_⟩
    have hrc : rc = nI (goodS B) := hrc
    rw [hrc, RCc.i6 hc, tb_andN, nI_z (Nat.lt_of_lt_of_le ha (by decide))]
    unfold wrongI
    refine ⟨fun e => ⟨_, sX3_childrenInGood hc hv, fun rc2 hrc2 => ?_⟩, fun e => ?_⟩
    · have e : andN (B.1 16) (goodS B) = 0 := e
      rw [if_pos e, hrc2]
      exact lX3_wrong hc hv _ 0 (Nat.zero_add _) rfl
    · have e : ¬ andN (B.1 16) (goodS B) = 0 := e
      rw [if_neg e]) (fun B hv hg hm => by
    have h9 := hm.upI (j := 19) (by decide) 0
    have hch := ch_lt hv
    have ha := andN_lt (m := goodS B) hch
    refine ⟨_, sX4_good h9 hv, fun rc I1 R1 hr => ?_⟩
    obtain ⟨e1, e2, e3, e4⟩ := hr
    have e1 : rc = nI (goodS B) := e1
    rw [e1, hm.i16, tb_andN, nI_z (Nat.lt_of_lt_of_le ha (by decide))]
    subst e2
    unfold wrongI
    refine ⟨fun e => ⟨_, sX4_takeSeen e3 hv, fun I2 R2 h2 => ?_⟩, fun e => ?_⟩
    · have e : andN (B.1 16) (goodS B) = 0 := e
      rw [if_pos e, h2.1.i16]
      exact ⟨_, sX4_why h2 hv (by omega), fun rc3 hrc3 => ⟨hrc3, h2.1⟩⟩
    · have e : ¬ andN (B.1 16) (goodS B) = 0 := e
      rw [if_neg e]
      exact ⟨rfl, e3⟩)
/-! lacking -/
def lackP (B : Bk) (c : Nat) : Bool := decide (timesB B (2 ^ B.1 11 - 1) c (B.1 11) < B.1 13)
def lackI (B : Bk) : Int32 := if fa_first (lackP B) (B.1 2) < B.1 2 then nI (fa_first (lackP B) (B.1 2)) else -1
theorem lackI_at {B : Bk} {k : Nat} (hk : k < B.1 2) (hn : ∀ j, j < k → lackP B j = false) (hp : lackP B k = true) : lackI B = nI k := by
  have e := first_eq hk hn hp
  unfold lackI
  rw [e, if_pos hk]
theorem lackI_no {B : Bk} (hn : ∀ j, j < B.1 2 → lackP B j = false) : lackI B = -1 := by
  have e := first_none hn
  unfold lackI
  rw [e, if_neg (Nat.lt_irrefl _)]
section
variable {I : Nat → Int32} {R : Nat → Nat → Int32} {CI : Nat → Int32} {CJ : Nat → Int64} {CR : Nat → Nat → Int32} {CG : Nat → Nat → Int64} {EI : Nat → Int32} {ER : Nat → Nat → Int32} {Eq En : Nat} {V : vS} {B : Bk} {lt : Nat}
theorem lX3_lack14 (h : RCc I R EI ER En V B lt) (hv : InvB B) {c : Nat} (hc : c < 31) {post : Int32 → Prop} (h1 : lackP B c = false → qX3_lacking_2 post I R CI CJ CR CG EI ER Eq En V (nI c + 1)) (h2 : lackP B c = true → post (nI c)) : ∀ n k, k + n = B.1 11 → qX3_lacking_14 post I R CI CJ CR CG EI ER Eq En V (nI c) (nI (timesB B (2 ^ B.1 11 - 1) c k)) (nI k)
  | 0, k, e => by
    have hn := hv.np
    have hl := hv.low
    have e : k = B.1 11 := by omega
    subst e
    have ht := timesB_le B (2 ^ B.1 11 - 1) c (B.1 11)
    refine kX3_lacking_14 ⟨fun _ => ?_, fun c => ?_⟩
    · rw [h.low, nI_leI (by omega) (by omega)]
      exact ⟨fun g => h1 (decide_eq_false (by omega)), fun g => h2 (decide_eq_true (by omega))⟩
    · rw [h.i4, nI_leI (by omega) (by omega)] at c
      omega
  | n + 1, k, e => by
    have hn := hv.np
    have hs := seenB_lt hv k
    have ih := lX3_lack14 h hv hc h1 h2 n (k + 1) (by omega)
    rw [← nI_1, timesB_succ, Nat.testBit_two_pow_sub_one, decide_eq_true (show k < B.1 11 by omega), Bool.true_and] at ih
    refine kX3_lacking_14 ⟨fun c => ?_, fun _ => ⟨_, sX3_shownIn h hv (p := k) (by omega), fun rc hrc x2 e2 => ?_⟩⟩
    · rw [h.i4, nI_leI (by omega) (by omega)] at c
      omega
    · rw [hrc, tb_bit (by omega) hc] at e2
      cases hb : (seenB B k).testBit c
      · rw [hb] at ih e2
        rw [if_neg (by decide), Int32.add_zero] at e2
        rw [e2]
        exact ih
      · rw [hb] at ih e2
        have e2 : x2 = nI (timesB B (2 ^ B.1 11 - 1) c k) + 1 := e2
        rw [e2, nI_1]
        exact ih
theorem lX3_lacking (h : RCc I R EI ER En V B lt) (hv : InvB B) : ∀ n k, k + n = B.1 2 → (∀ j, j < k → lackP B j = false) → qX3_lacking_2 (fun r => r = lackI B) I R CI CJ CR CG EI ER Eq En V (nI k)
  | 0, k, e, hk => by
    have hn := hv.nc
    have e : k = B.1 2 := by omega
    subst e
    refine kX3_lacking_2 ⟨fun _ => (lackI_no hk).symm, fun c => ?_⟩
    rw [h.i2, nI_leI (by omega) (by omega)] at c
    omega
  | n + 1, k, e, hk => by
    have hn := hv.nc
    refine kX3_lacking_2 ⟨fun c => ?_, fun _ => lX3_lack14 h hv (by omega) (fun g => ?_) (fun g => (lackI_at (by omega) hk g).symm) _ 0 (Nat.zero_add _)⟩
    · rw [h.i2, nI_leI (by omega) (by omega)] at c
      omega
    · rw [nI_1]
      exact lX3_lacking h hv n (k + 1) (by omega) (lt_s hk g)
theorem lX4_lacking (hv : InvB B) : ∀ n k, k + n = B.1 2 → (∀ j, j < k → lackP B j = false) → ∀ (I : Nat → Int32) (R : Nat → Nat → Int32), RM I R B → qX4_lacking_7 (pQ B (lackI B)) (nI k) I R
  | 0, k, e, hk, I, R, h => by
    have hn := hv.nc
    have e : k = B.1 2 := by omega
    subst e
    refine kX4_lacking_7 ⟨fun _ => ⟨(lackI_no hk).symm, h⟩, fun c => ?_⟩
    rw [h.i2, nI_leI (by omega) (by omega)] at c
    omega
  | n + 1, k, e, hk, I, R, h => by
    have hn := hv.nc
    have hnp := hv.np
    have hl := hv.low
    have hp := tb_p2 (k := B.1 11) (by omega)
    have ht := timesB_le B (2 ^ B.1 11 - 1) k (B.1 11)
    refine kX4_lacking_7 ⟨fun c => ?_, fun _ => ?_⟩
    · rw [h.i2, nI_leI (by omega) (by omega)] at c
      omega
    · rw [h.i11, tb_shl _ (by omega), show (1 : Int32) = nI 1 from rfl, pk_sub hp.1]
      refine ⟨_, sX4_timesIn h hv (by omega) (by omega), fun rc I1 R1 hq => ?_⟩
      obtain ⟨e1, e2, e3, e4⟩ := hq
      subst e2
      rw [e1, h.i13, nI_leI (by omega) (by omega)]
      refine ⟨fun g => ?_, fun g => ⟨(lackI_at (by omega) hk (decide_eq_true (by omega))).symm, e3⟩⟩
      rw [nI_add]
      exact lX4_lacking hv n (k + 1) (by omega) (lt_s hk (decide_eq_false (by omega))) _ R1 e3
end
theorem ag_lacking : Ag_lacking JJ := fun {k c s u v} hk hj => query hj (fun P => qX3_lacking P u.1 u.2.1 u.2.2.1 u.2.2.2.1 u.2.2.2.2.1 u.2.2.2.2.2.1 u.2.2.2.2.2.2.1 u.2.2.2.2.2.2.2.1 u.2.2.2.2.2.2.2.2.1 u.2.2.2.2.2.2.2.2.2.1 u.2.2.2.2.2.2.2.2.2.2) (fun P => qX4_lacking P v.1 v.2) lackI (fun B lt hv hg hc => lX3_lacking hc hv _ 0 (Nat.zero_add _) (fun j hj => absurd hj (Nat.not_lt_zero j))) (fun B hv hg hm => lX4_lacking hv _ 0 (Nat.zero_add _) (fun j hj => absurd hj (Nat.not_lt_zero j)) _ _ (hm.upI (j := 19) (by decide) 0))
