/-! what both keep: the relation of the law's loop -/
def PgI (B : Bk) : Prop := ∀ g, g < B.1 18 → pts (B.2 5) (B.2 17 g) 14 ≤ 12
def RC (u : cS) (B : Bk) (lt : Nat) : Prop := RCc u.1 u.2.1 u.2.2.2.2.2.2.1 u.2.2.2.2.2.2.2.1 u.2.2.2.2.2.2.2.2.2.1 u.2.2.2.2.2.2.2.2.2.2 B lt
def JJ (k c s : Nat) (u : cS) (v : mS) : Prop := ∃ (B : Bk) (lt : Nat), InvB B ∧ PgI B ∧ RC u B lt ∧ RM v.1 v.2 B ∧ c ≤ 36 + 6 * B.1 11 + lt + k ∧ s ≤ 33600 + 47 * B.1 11 + 2 ^ (lt + 1) + 6 * k
/-- an answer, the book as it was -/
def pQ (B : Bk) (a : Int32) : Int32 → (Nat → Int32) → (Nat → Nat → Int32) → Prop := fun r I R => r = a ∧ RM I R B
theorem query {k c s : Nat} {u : cS} {v : mS} (hj : JJ k c s u v) (Q3 : (Int32 → Prop) → Prop) (Q4 : (Int32 → (Nat → Int32) → (Nat → Nat → Int32) → Prop) → Prop) (ans : Bk → Int32) (h3 : ∀ B lt, InvB B → PgI B → RC u B lt → Q3 (fun r => r = ans B)) (h4 : ∀ B, InvB B → PgI B → RM v.1 v.2 B → Q4 (pQ B (ans B))) :
    ∃ P : Int32 → Prop, Q3 P ∧ ∀ r : Int32, P r → ∃ P' : Int32 → (Nat → Int32) → (Nat → Nat → Int32) → Prop, Q4 P' ∧ ∀ (r' : Int32) (v' : mS), P' r' v'.1 v'.2 → r = r' ∧ JJ (k + 1) c s u v' := by
  obtain ⟨B, lt, hv, hg, hc, hm, h1, h2⟩ := hj
  refine ⟨_, h3 B lt hv hg hc, fun r hr => ⟨_, h4 B hv hg hm, fun r' v' hq => ⟨hr.trans hq.1.symm, B, lt, hv, hg, hc, hq.2, by omega, by omega⟩⟩⟩
/-- .. and the book changes -/
theorem change {k c s : Nat} {u : cS} {v : mS} (hj : JJ k c s u v) (Q3 : (Int32 → (Nat → Int32) → (Nat → Nat → Int32) → (Nat → Int32) → (Nat → Int64) → (Nat → Nat → Int32) → (Nat → Nat → Int64) → (Nat → Int32) → (Nat → Nat → Int32) → Nat → Nat → vS → Prop) → Prop) (Q4 : (Int32 → (Nat → Int32) → (Nat → Nat → Int32) → Prop) → Prop) (ans : Bk → Int32) (next : Bk → Bk)
    (h3 : ∀ B lt, InvB B → PgI B → RC u B lt → Q3 (fun r I R CI CJ CR CG EI ER Eq En V => r = ans B ∧ RC (I, R, CI, CJ, CR, CG, EI, ER, Eq, En, V) (next B) lt)) (h4 : ∀ B, InvB B → PgI B → RM v.1 v.2 B → Q4 (pQ (next B) (ans B))) (hn : ∀ B, InvB B → PgI B → InvB (next B) ∧ PgI (next B) ∧ (next B).1 11 = B.1 11) :
    ∃ P : Int32 → (Nat → Int32) → (Nat → Nat → Int32) → (Nat → Int32) → (Nat → Int64) → (Nat → Nat → Int32) → (Nat → Nat → Int64) → (Nat → Int32) → (Nat → Nat → Int32) → Nat → Nat → vS → Prop, Q3 P ∧ ∀ (r : Int32) (u' : cS), P r u'.1 u'.2.1 u'.2.2.1 u'.2.2.2.1 u'.2.2.2.2.1 u'.2.2.2.2.2.1 u'.2.2.2.2.2.2.1 u'.2.2.2.2.2.2.2.1 u'.2.2.2.2.2.2.2.2.1 u'.2.2.2.2.2.2.2.2.2.1 u'.2.2.2.2.2.2.2.2.2.2 → ∃ P' : Int32 → (Nat → Int32) → (Nat → Nat → Int32) → Prop, Q4 P' ∧ ∀ (r' : Int32) (v' : mS), P' r' v'.1 v'.2 → r = r' ∧ JJ (k + 1) c s u' v' := by
  obtain ⟨B, lt, hv, hg, hc, hm, h1, h2⟩ := hj
  obtain ⟨n1, n2, n3⟩ := hn B hv hg
  refine ⟨_, h3 B lt hv hg hc, fun r u' hr => ⟨_, h4 B hv hg hm, fun r' v' hq => ⟨hr.1.trans hq.1.symm, next B, lt, n1, n2, hr.2, hq.2, by rw [n3]; omega, by rw [n3]; omega⟩⟩⟩
theorem ag_room : Ag_room JJ := fun {k c s u v} hk hj => by
  obtain ⟨B, lt, hv, hg, hc, hm, h1, h2⟩ := hj
  have h3 := hv.np
  have h4 : lt ≤ B.1 11 := hc.2.2.2.2.1
  have h5 : 2 ^ (lt + 1) ≤ 2 ^ 15 := Nat.pow_le_pow_right (by decide) (by omega)
  omega
theorem ag_skip : Ag_skip JJ := fun {k c s u v} hj => by
  obtain ⟨B, lt, hv, hg, hc, hm, h1, h2⟩ := hj
  exact ⟨B, lt, hv, hg, hc, hm, by omega, by omega⟩
/-! count -/
def countI (a : Int32) (B : Bk) : Int32 := if a = 0 then nI (B.1 2) else if a = 1 then nI (B.1 11) else if a = 2 then nI (B.1 16) else if a = 3 then nI (sumB B (B.1 16) (B.1 11)) else if a = 4 then nI (B.1 18) else if a = 5 then nI (bitsF (goodB B) (B.1 11)) else if a = 6 then nI (orN (seenB B) (B.1 11)) else -1
theorem out_ne {a b : Int32} {lo hi : Int} (c : a.toInt < lo ∨ hi < a.toInt) (h : lo ≤ b.toInt ∧ b.toInt ≤ hi) : a ≠ b := by
  rintro rfl
  omega
theorem ag_count : Ag_count JJ := fun {k c s u v} a hk hj => query hj (fun P => qX3_count P a u.1 u.2.1 u.2.2.1 u.2.2.2.1 u.2.2.2.2.1 u.2.2.2.2.2.1 u.2.2.2.2.2.2.1 u.2.2.2.2.2.2.2.1 u.2.2.2.2.2.2.2.2.1 u.2.2.2.2.2.2.2.2.2.1 u.2.2.2.2.2.2.2.2.2.2) (fun P => qX4_count P a v.1 v.2) (countI a) (fun B lt hv hg hc => by
    refine ⟨fun o => ?_, fun e => ?_, fun e => ?_, fun e => ?_, fun e => ?_, fun e => ?_, fun e => ?_, fun e => ?_⟩
    · show (-1 : Int32) = countI a B
      unfold countI
      rw [if_neg (out_ne o (by decide)), if_neg (out_ne o (by decide)), if_neg (out_ne o (by decide)), if_neg (out_ne o (by decide)), if_neg (out_ne o (by decide)), if_neg (out_ne o (by decide)), if_neg (out_ne o (by decide))]
    · subst e; exact RCc.i2 hc
    · subst e; exact RCc.i4 hc
    · subst e; exact RCc.i6 hc
    · subst e; exact ⟨_, sX3_worthOfChoice hc hv, fun r hr => hr⟩
    · subst e; exact RCc.e3 hc
    · subst e; exact ⟨_, sX3_goodPictures hc hv, fun r hr => hr⟩
    · subst e; exact ⟨_, sX3_childrenInGood hc hv, fun r hr => hr⟩) (fun B hv hg hm => by
    have h9 := hm.upI (j := 19) (by decide) 0
    refine ⟨fun o => ⟨?_, h9⟩, fun e => ?_, fun e => ?_, fun e => ?_, fun e => ?_, fun e => ?_, fun e => ?_, fun e => ?_⟩
    · show (-1 : Int32) = countI a B
      unfold countI
      rw [if_neg (out_ne o (by decide)), if_neg (out_ne o (by decide)), if_neg (out_ne o (by decide)), if_neg (out_ne o (by decide)), if_neg (out_ne o (by decide)), if_neg (out_ne o (by decide)), if_neg (out_ne o (by decide))]
    · subst e; exact ⟨hm.i2, h9⟩
    · subst e; exact ⟨hm.i11, h9⟩
    · subst e; exact ⟨hm.i16, h9⟩
    · subst e
      have hch := ch_lt hv
      rw [hm.i16]
      exact ⟨_, sX4_sum h9 hv (by omega), fun r hr => ⟨hr, h9⟩⟩
    · subst e; exact ⟨hm.i18, h9⟩
    · subst e; exact ⟨_, sX4_good h9 hv, fun r I1 R1 hr => ⟨hr.1, by rw [hr.2.1]; exact hr.2.2.1⟩⟩
    · subst e; exact ⟨_, sX4_shown h9 hv, fun r I1 R1 hr => ⟨hr.1, by rw [hr.2.1]; exact hr.2.2.1⟩⟩)
/-! seen -/
def seenI (a : Int32) (B : Bk) : Int32 := if isIn a (B.1 2) then nI (timesB B (B.1 16) a.toNatClampNeg (B.1 11)) else -1
theorem ag_seen : Ag_seen JJ := fun {k c s u v} a hk hj => query hj (fun P => qX3_seen P a u.1 u.2.1 u.2.2.1 u.2.2.2.1 u.2.2.2.2.1 u.2.2.2.2.2.1 u.2.2.2.2.2.2.1 u.2.2.2.2.2.2.2.1 u.2.2.2.2.2.2.2.2.1 u.2.2.2.2.2.2.2.2.2.1 u.2.2.2.2.2.2.2.2.2.2) (fun P => qX4_seen P a v.1 v.2) (seenI a) (fun B lt hv hg hc => by
    refine ⟨_, sX3_isChild hc hv a, fun rc hrc => ⟨fun e => ?_, fun e => ?_⟩⟩
    · rw [hrc, b2i_0] at e
      show (-1 : Int32) = seenI a B
      unfold seenI
      rw [e]; rfl
    · rw [hrc, b2i_n0] at e
      obtain ⟨j, hj9, rfl⟩ := isIn_get e
      have := hv.nc
      rw [tb_shl _ (by omega)]
      refine ⟨_, sX3_chosenShowing hc hv _, fun r hr => ?_⟩
      unfold seenI
      rw [hr, e, if_pos rfl, show_times, nI_clamp (by omega)]) (fun B hv hg hm => by
    have h9 := hm.upI (j := 19) (by decide) 0
    refine ⟨_, sX4_isChild h9 hv a, fun rc hrc => ⟨fun e => ⟨?_, h9⟩, fun e => ?_⟩⟩
    · rw [hrc, b2i_0] at e
      unfold seenI
      rw [e]; rfl
    · rw [hrc, b2i_n0] at e
      obtain ⟨j, hj9, rfl⟩ := isIn_get e
      have := hv.nc
      have hch := ch_lt hv
      rw [hm.i16]
      refine ⟨_, sX4_timesIn h9 hv (by omega) (by omega), fun r I1 R1 hr => ⟨?_, by rw [hr.2.1]; exact hr.2.2.1⟩⟩
      unfold seenI
      rw [hr.1, e, if_pos rfl, nI_clamp (by omega)])
/-! shows -/
def ofRoom (B : Bk) (a : Int32) (n : Nat) : Nat := bitsF (fun c => decide (nI (B.2 0 c) = a)) n
theorem ofRoom_succ (B : Bk) (a : Int32) (n : Nat) : ofRoom B a (n + 1) = ofRoom B a n ||| (if decide (nI (B.2 0 n) = a) then 2 ^ n else 0) := rfl
def showsI (a : Int32) (B : Bk) : Int32 := if decide (((0 : Nat) : Int) ≤ a.toInt ∧ a.toInt ≤ (9 : Nat)) then nI (showB B (ofRoom B a (B.1 2)) (B.1 11)) else -1
section
variable {I : Nat → Int32} {R : Nat → Nat → Int32} {CI : Nat → Int32} {CJ : Nat → Int64} {CR : Nat → Nat → Int32} {CG : Nat → Nat → Int64} {EI : Nat → Int32} {ER : Nat → Nat → Int32} {Eq En : Nat} {V : vS} {B : Bk} {lt : Nat}
theorem lX3_shows (h : RCc I R EI ER En V B lt) (hv : InvB B) (a : Int32) : ∀ n k, k + n = B.1 2 → qX3_shows_16 (fun r => r = nI (showB B (ofRoom B a (B.1 2)) (B.1 11))) a I R CI CJ CR CG EI ER Eq En V (nI (ofRoom B a k)) (nI k)
  | 0, k, e => by
    have hn := hv.nc
    refine kX3_shows_16 ⟨fun _ => ?_, fun c => ?_⟩
    · have e : k = B.1 2 := by omega
      subst e
      exact ⟨_, sX3_chosenShowing h hv _, fun r hr => hr⟩
    · rw [h.i2, nI_leI (by omega) (by omega)] at c
      omega
  | n + 1, k, e => by
    have hn := hv.nc
    have ih := lX3_shows h hv a n (k + 1) (by omega)
    rw [← nI_1, ofRoom_succ] at ih
    refine kX3_shows_16 ⟨fun c => ?_, fun _ => ⟨vp_in_nI (by omega) (by decide), fun c => ?_, fun c x2 e2 => ?_⟩⟩
    · rw [h.i2, nI_leI (by omega) (by omega)] at c
      omega
    · rw [nI_clamp (by omega), h.r0] at c
      rw [decide_eq_false c, if_neg (by decide), Nat.or_zero] at ih
      exact ih
    · rw [nI_clamp (by omega), h.r0] at c
      rw [decide_eq_true c, if_pos rfl] at ih
      rw [e2, tb_shl _ (by omega), tb_or]
      exact ih
theorem lX4_shows2 (hv : InvB B) (a : Int32) (S : Nat) : ∀ n k, k + n = B.1 11 → ∀ R : Nat → Nat → Int32, RM I R B → qX4_shows_56 (pQ B (nI (showB B S (B.1 11)))) a (nI S) (nI (showB B S k)) (nI k) I R
  | 0, k, e, R, h => by
    have hn := hv.np
    refine kX4_shows_56 ⟨fun _ => ?_, fun c => ?_⟩
    · have e : k = B.1 11 := by omega
      subst e
      exact ⟨rfl, h⟩
    · rw [h.i11, nI_leI (by omega) (by omega)] at c
      omega
  | n + 1, k, e, R, h => by
    have hn := hv.np
    have hch := ch_lt hv
    have hs := and_lt (b := S) (seenB_lt hv k)
    refine kX4_shows_56 ⟨fun c => ?_, fun _ => ⟨fun c => ?_, fun c => ⟨_, sX4_seenIn h hv (p := k) (by omega), fun rc I1 R1 hq => ⟨fun c2 => ?_, fun c2 => ?_⟩⟩⟩⟩
    · rw [h.i11, nI_leI (by omega) (by omega)] at c
      omega
    · rw [h.i16, tb_1 (by omega) (by omega)] at c
      have ih := lX4_shows2 hv a S n (k + 1) (by omega) R h
      rw [← nI_1, showB_succ, of_not_true c, Bool.false_and, if_neg (by decide), Nat.add_zero] at ih
      exact ih
    · rw [h.i16, tb_1 (by omega) (by omega)] at c
      rw [hq.1, fa_and, nI_z (by omega)] at c2
      have ih := lX4_shows2 hv a S n (k + 1) (by omega) R1 hq.2.2.1
      rw [← nI_1, showB_succ, c, c2, if_neg (by decide), Nat.add_zero] at ih
      rw [hq.2.1]
      exact ih
    · rw [h.i16, tb_1 (by omega) (by omega)] at c
      rw [hq.1, fa_and, nI_z (by omega)] at c2
      have ih := lX4_shows2 hv a S n (k + 1) (by omega) R1 hq.2.2.1
      rw [← nI_1, showB_succ, c, if_pos (by simp [c2]), ← nI_1] at ih
      rw [hq.2.1]
      exact ih
theorem lX4_shows (h : RM I R B) (hv : InvB B) (a : Int32) : ∀ n k, k + n = B.1 2 → qX4_shows_21 (pQ B (nI (showB B (ofRoom B a (B.1 2)) (B.1 11)))) a (nI (ofRoom B a k)) (nI k) I R
  | 0, k, e => by
    have hn := hv.nc
    refine kX4_shows_21 ⟨fun _ => ?_, fun c => ?_⟩
    · have e : k = B.1 2 := by omega
      subst e
      exact lX4_shows2 hv a _ _ 0 (Nat.zero_add _) R h
    · rw [h.i2, nI_leI (by omega) (by omega)] at c
      omega
  | n + 1, k, e => by
    have hn := hv.nc
    have ih := lX4_shows h hv a n (k + 1) (by omega)
    rw [← nI_1, ofRoom_succ] at ih
    refine kX4_shows_21 ⟨fun c => ?_, fun _ => ⟨vp_in_nI (by omega) (by decide), fun c => ?_, fun c x2 e2 => ?_⟩⟩
    · rw [h.i2, nI_leI (by omega) (by omega)] at c
      omega
    · rw [nI_clamp (by omega), h.r0] at c
      rw [decide_eq_false c, if_neg (by decide), Nat.or_zero] at ih
      exact ih
    · rw [nI_clamp (by omega), h.r0] at c
      rw [decide_eq_true c, if_pos rfl] at ih
      rw [e2, tb_shl _ (by omega), tb_or]
      exact ih
end
theorem ag_shows : Ag_shows JJ := fun {k c s u v} a hk hj => query hj (fun P => qX3_shows P a u.1 u.2.1 u.2.2.1 u.2.2.2.1 u.2.2.2.2.1 u.2.2.2.2.2.1 u.2.2.2.2.2.2.1 u.2.2.2.2.2.2.2.1 u.2.2.2.2.2.2.2.2.1 u.2.2.2.2.2.2.2.2.2.1 u.2.2.2.2.2.2.2.2.2.2) (fun P => qX4_shows P a v.1 v.2) (showsI a) (fun B lt hv hg hc => by
    refine ⟨_, sX3_within a 0 9 (by decide) (by decide), fun rc hrc => ⟨fun e => ?_, fun e => ?_⟩⟩
    · rw [hrc, b2i_n0] at e
      unfold showsI
      rw [e, if_pos rfl]
      exact lX3_shows hc hv a _ 0 (Nat.zero_add _)
    · rw [hrc, b2i_0] at e
      show (-1 : Int32) = showsI a B
      unfold showsI
      rw [e]; rfl) (fun B hv hg hm => by
    have h9 := hm.upI (j := 19) (by decide) 0
    refine ⟨_, sX4_in a 0 9 (by decide) (by decide), fun rc hrc => ⟨fun e => ?_, fun e => ⟨?_, h9⟩⟩⟩
    · rw [hrc, b2i_n0] at e
      unfold showsI
      rw [e, if_pos rfl]
      exact lX4_shows h9 hv a _ 0 (Nat.zero_add _)
    · rw [hrc, b2i_0] at e
      unfold showsI
      rw [e]; rfl)
