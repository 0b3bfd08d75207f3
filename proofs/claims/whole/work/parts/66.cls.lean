/-! the class against the book -/
/-- points of a set -/
def pts (sz : Nat → Nat) (S n : Nat) : Nat := fb_sm (fun p => if S.testBit p then sz p else 0) n
/-- a set on b pages of at most 12 points, the last of them with l; no page: the empty set, as if 12 -/
def Pag (sz : Nat → Nat) : Nat → Nat → Nat → Prop
  | 0, S, l => S = 0 ∧ l = 12
  | b + 1, S, l => ∃ T, T ≠ 0 ∧ T &&& S = T ∧ pts sz T 14 = l ∧ l ≤ 12 ∧ ∃ l', Pag sz b (S ^^^ T) l'
/-- the fewest pages, of these the fewest points on the last -/
def PkL (sz : Nat → Nat) (S v : Nat) : Prop := ∃ b l, v = 16 * b + l ∧ l ≤ 12 ∧ b ≤ 14 ∧ Pag sz b S l ∧ ∀ b' l', Pag sz b' S l' → b < b' ∨ (b = b' ∧ l ≤ l')
def RCc (I : Nat → Int32) (R : Nat → Nat → Int32) (EI : Nat → Int32) (ER : Nat → Nat → Int32) (En : Nat) (V : vS) (B : Bk) (lt : Nat) : Prop :=
  (I 2 = nI (B.1 2) ∧ I 4 = nI (B.1 11) ∧ I 6 = nI (B.1 16)) ∧ ((∀ c, R 0 c = nI (B.2 0 c)) ∧ (∀ c, R 1 c = nI (B.2 1 c)) ∧ R 5 0 = nI (B.1 12) ∧ R 5 1 = nI (B.1 13) ∧ R 5 2 = nI (B.1 14) ∧ R 5 3 = nI (B.1 15)) ∧
  (pvN V = B.1 11 ∧ ∀ p, p < B.1 11 → PicR (pvI V p) (pvR V p) B p) ∧ (EI 1 = nI (B.1 11) ∧ EI 3 = nI (B.1 18) ∧ (∀ p, p < B.1 11 → ER 0 p = nI (B.2 5 p)) ∧ ∀ g, g < B.1 18 → ER 2 g = nI (B.2 17 g)) ∧
  (lt ≤ B.1 11 ∧ EI 5 = nI lt ∧ En = 2 ^ lt ∧ ∀ S, S < 2 ^ lt → ∃ v, ER 4 S = nI v ∧ PkL (B.2 5) S v)
def isIn (a : Int32) (n : Nat) : Bool := decide (0 ≤ a.toInt ∧ a.toInt < n)
theorem isIn_get {a : Int32} {n : Nat} (h : isIn a n = true) : ∃ k, k < n ∧ a = nI k := by
  unfold isIn at h
  rw [decide_eq_true_eq] at h
  have h0 : ¬ a < 0 := by rw [fa_lt]; show ¬ a.toInt < 0; omega
  obtain ⟨k, hk, rfl⟩ := nI_of h0
  rw [nI_toInt hk] at h
  exact ⟨k, by omega, rfl⟩
theorem isIn_nI {k n : Nat} (hk : k < 2 ^ 31) : isIn (nI k) n = decide (k < n) := by
  unfold isIn
  rw [nI_toInt hk]
  congr 1
  apply propext
  omega
section
variable {I : Nat → Int32} {R : Nat → Nat → Int32} {CI : Nat → Int32} {CJ : Nat → Int64} {CR : Nat → Nat → Int32} {CG : Nat → Nat → Int64} {EI : Nat → Int32} {ER : Nat → Nat → Int32} {Eq En : Nat} {V : vS} {B : Bk} {lt : Nat}
theorem RCc.i2 (h : RCc I R EI ER En V B lt) : I 2 = nI (B.1 2) := h.1.1
theorem RCc.i4 (h : RCc I R EI ER En V B lt) : I 4 = nI (B.1 11) := h.1.2.1
theorem RCc.i6 (h : RCc I R EI ER En V B lt) : I 6 = nI (B.1 16) := h.1.2.2
theorem RCc.r0 (h : RCc I R EI ER En V B lt) (c : Nat) : R 0 c = nI (B.2 0 c) := h.2.1.1 c
theorem RCc.r1 (h : RCc I R EI ER En V B lt) (c : Nat) : R 1 c = nI (B.2 1 c) := h.2.1.2.1 c
theorem RCc.span (h : RCc I R EI ER En V B lt) : R 5 0 = nI (B.1 12) := h.2.1.2.2.1
theorem RCc.low (h : RCc I R EI ER En V B lt) : R 5 1 = nI (B.1 13) := h.2.1.2.2.2.1
theorem RCc.high (h : RCc I R EI ER En V B lt) : R 5 2 = nI (B.1 14) := h.2.1.2.2.2.2.1
theorem RCc.last (h : RCc I R EI ER En V B lt) : R 5 3 = nI (B.1 15) := h.2.1.2.2.2.2.2
theorem RCc.vn (h : RCc I R EI ER En V B lt) : pvN V = B.1 11 := h.2.2.1.1
theorem RCc.pic (h : RCc I R EI ER En V B lt) {p : Nat} (hp : p < B.1 11) : PicR (pvI V p) (pvR V p) B p := h.2.2.1.2 p hp
theorem RCc.e1 (h : RCc I R EI ER En V B lt) : EI 1 = nI (B.1 11) := h.2.2.2.1.1
theorem RCc.e3 (h : RCc I R EI ER En V B lt) : EI 3 = nI (B.1 18) := h.2.2.2.1.2.1
theorem RCc.sz (h : RCc I R EI ER En V B lt) {p : Nat} (hp : p < B.1 11) : ER 0 p = nI (B.2 5 p) := h.2.2.2.1.2.2.1 p hp
theorem RCc.pg (h : RCc I R EI ER En V B lt) {g : Nat} (hg : g < B.1 18) : ER 2 g = nI (B.2 17 g) := h.2.2.2.1.2.2.2 g hg
theorem ch_lt (hv : InvB B) : B.1 16 < 2 ^ 14 := Nat.lt_of_lt_of_le hv.ch (Nat.pow_le_pow_right (by decide) hv.np)
theorem sX3_within (a : Int32) (lo hi : Nat) (hlo : lo < 2 ^ 31) (hhi : hi < 2 ^ 31) : qX3_within (fun r => r = b2i (decide ((lo : Int) ≤ a.toInt ∧ a.toInt ≤ hi))) a (nI lo) (nI hi) := by
  unfold qX3_within
  rw [fa_lt, fa_lt, nI_toInt hlo, nI_toInt hhi]
  refine ⟨fun c => ?_, fun c => ⟨fun c2 => ?_, fun c2 => ?_⟩⟩
  · show (0 : Int32) = _
    rw [decide_eq_false (by omega)]; rfl
  · show (0 : Int32) = _
    rw [decide_eq_false (by omega)]; rfl
  · show (1 : Int32) = _
    rw [decide_eq_true (by omega)]; rfl
theorem sX4_in (a : Int32) (lo hi : Nat) (hlo : lo < 2 ^ 31) (hhi : hi < 2 ^ 31) : qX4_in (fun r => r = b2i (decide ((lo : Int) ≤ a.toInt ∧ a.toInt ≤ hi))) a (nI lo) (nI hi) := sX3_within a lo hi hlo hhi
theorem sX3_isChild (h : RCc I R EI ER En V B lt) (hv : InvB B) (a : Int32) : qX3_isChild (fun r => r = b2i (isIn a (B.1 2))) a I R CI CJ CR CG EI ER Eq En V := by
  have hn := hv.nc
  unfold qX3_isChild isIn
  rw [fa_lt, h.i2, fa_le, nI_toInt (by omega)]
  refine ⟨fun c => ?_, fun c => ⟨fun c2 => ?_, fun c2 => ?_⟩⟩
  · have c : a.toInt < 0 := c
    show (0 : Int32) = _
    rw [decide_eq_false (by omega)]; rfl
  · show (0 : Int32) = _
    rw [decide_eq_false (by omega)]; rfl
  · have c : ¬ a.toInt < 0 := c
    show (1 : Int32) = _
    rw [decide_eq_true (by omega)]; rfl
theorem sX4_inN {a : Int32} {n : Nat} (hn : n ≤ 16) : qX4_in (fun r => r = b2i (isIn a n)) a 0 (nI n - 1) := by
  have e : (nI n - 1).toInt = (n : Int) - 1 := by
    rw [show (1 : Int32) = iI 1 from rfl, iI_nat, iI_sub, iI_toInt (by omega) (by omega)]
  unfold qX4_in isIn
  rw [fa_lt, fa_lt, e]
  refine ⟨fun c => ?_, fun c => ⟨fun c2 => ?_, fun c2 => ?_⟩⟩
  · have c : a.toInt < 0 := c
    show (0 : Int32) = _
    rw [decide_eq_false (by omega)]; rfl
  · show (0 : Int32) = _
    rw [decide_eq_false (by omega)]; rfl
  · have c : ¬ a.toInt < 0 := c
    show (1 : Int32) = _
    rw [decide_eq_true (by omega)]; rfl
theorem narrow_b (b : Bool) : narrow .boolean (.int (b2i b)) = .int (b2i b) := narrow01 b
theorem sX4_isChild (h : RM I R B) (hv : InvB B) (a : Int32) : qX4_isChild (fun r => r = b2i (isIn a (B.1 2))) a I R := by
  unfold qX4_isChild
  rw [h.i2]
  exact ⟨_, sX4_inN hv.nc, fun r hr => ⟨by rw [hr]; exact narrow_b _, hr⟩⟩
theorem sX4_isPicture (h : RM I R B) (hv : InvB B) (a : Int32) : qX4_isPicture (fun r => r = b2i (isIn a (B.1 11))) a I R := by
  have := hv.np
  unfold qX4_isPicture
  rw [h.i11]
  exact ⟨_, sX4_inN (by omega), fun r hr => ⟨by rw [hr]; exact narrow_b _, hr⟩⟩
theorem sX3_shownIn (h : RCc I R EI ER En V B lt) (hv : InvB B) {p : Nat} (hp : p < B.1 11) : qX3_shownIn (fun r => r = nI (seenB B p)) (nI p) I R CI CJ CR CG EI ER Eq En V := by
  have hn := hv.np
  refine ⟨by rw [h.i4, h.vn], by rw [h.vn]; exact hn, fun c => ?_, fun k hk e => ?_⟩
  · rcases c with c | c
    · exact absurd c (nI_pos (by omega))
    · rw [h.i4, nI_leI (by omega) (by omega)] at c
      omega
  · rw [h.vn] at hk
    rw [nI_eq (by omega) (by omega)] at e
    subst e
    exact (h.pic hp).2.2.1
theorem sX3_worthOf (h : RCc I R EI ER En V B lt) (hv : InvB B) {p : Nat} (hp : p < B.1 11) : qX3_worthOf (fun r => r = nI (B.2 4 p)) (nI p) I R CI CJ CR CG EI ER Eq En V := by
  have hn := hv.np
  refine ⟨by rw [h.i4, h.vn], by rw [h.vn]; exact hn, fun c => ?_, fun k hk e => ?_⟩
  · rcases c with c | c
    · exact absurd c (nI_pos (by omega))
    · rw [h.i4, nI_leI (by omega) (by omega)] at c
      omega
  · rw [h.vn] at hk
    rw [nI_eq (by omega) (by omega)] at e
    subst e
    exact (h.pic hp).1.2.1
theorem sX3_isChosen (h : RCc I R EI ER En V B lt) (hv : InvB B) {p : Nat} (hp : p < 31) : qX3_isChosen (fun r => r = b2i ((B.1 16).testBit p)) (nI p) I R CI CJ CR CG EI ER Eq En V := by
  have hc := ch_lt hv
  unfold qX3_isChosen
  rw [h.i6, tb_0 (by omega) hp]
  refine ⟨fun c => ?_, fun c => ?_⟩
  · show (0 : Int32) = _
    rw [c]; rfl
  · show (1 : Int32) = _
    rw [of_not_false c]; rfl
theorem lX3_worthOfChoice (h : RCc I R EI ER En V B lt) (hv : InvB B) : ∀ n k, k + n = B.1 11 → qX3_worthOfChoice_4 (fun r => r = nI (sumB B (B.1 16) (B.1 11))) I R CI CJ CR CG EI ER Eq En V (nI (sumB B (B.1 16) k)) (nI k)
  | 0, k, e => by
    have hn := hv.np
    refine kX3_worthOfChoice_4 ⟨fun _ => ?_, fun c => ?_⟩
    · have e : k = B.1 11 := by omega
      subst e
      rfl
    · rw [h.i4, nI_leI (by omega) (by omega)] at c
      omega
  | n + 1, k, e => by
    have hn := hv.np
    have ih := lX3_worthOfChoice h hv n (k + 1) (by omega)
    rw [← nI_1, sumB_succ] at ih
    refine kX3_worthOfChoice_4 ⟨fun c => ?_, fun _ => ⟨_, sX3_isChosen h hv (p := k) (by omega), fun rc hrc => ⟨fun c => ?_, fun c => ⟨_, sX3_worthOf h hv (p := k) (by omega), fun rc2 hrc2 x1 e1 => ?_⟩⟩⟩⟩
    · rw [h.i4, nI_leI (by omega) (by omega)] at c
      omega
    · rw [hrc, b2i_0] at c
      rw [c, if_neg (by decide), Nat.add_zero] at ih
      exact ih
    · rw [hrc, b2i_n0] at c
      rw [c, if_pos rfl] at ih
      rw [e1, hrc2, nI_add]
      exact ih
theorem sX3_worthOfChoice (h : RCc I R EI ER En V B lt) (hv : InvB B) : qX3_worthOfChoice (fun r => r = nI (sumB B (B.1 16) (B.1 11))) I R CI CJ CR CG EI ER Eq En V := lX3_worthOfChoice h hv _ 0 (Nat.zero_add _)
theorem nI_z {n : Nat} (h : n < 2 ^ 31) : nI n = 0 ↔ n = 0 := nI_eq (b := 0) h (by decide)
theorem lX3_goodPictures (h : RCc I R EI ER En V B lt) (hv : InvB B) : ∀ n k, k + n = B.1 11 → qX3_goodPictures_4 (fun r => r = nI (bitsF (goodB B) (B.1 11))) I R CI CJ CR CG EI ER Eq En V (nI (bitsF (goodB B) k)) (nI k)
  | 0, k, e => by
    have hn := hv.np
    refine kX3_goodPictures_4 ⟨fun _ => ?_, fun c => ?_⟩
    · have e : k = B.1 11 := by omega
      subst e
      rfl
    · rw [h.i4, nI_leI (by omega) (by omega)] at c
      omega
  | n + 1, k, e => by
    have hn := hv.np
    have hs := seenB_lt hv k
    have ih := lX3_goodPictures h hv n (k + 1) (by omega)
    rw [← nI_1, bitsF] at ih
    refine kX3_goodPictures_4 ⟨fun c => ?_, fun _ => ⟨_, sX3_shownIn h hv (p := k) (by omega), fun rc hrc => ⟨fun c => ?_, fun c x1 e1 => ?_⟩⟩⟩
    · rw [h.i4, nI_leI (by omega) (by omega)] at c
      omega
    · rw [hrc, nI_z (by omega), seenB_0] at c
      rw [c, if_neg (by decide), Nat.or_zero] at ih
      exact ih
    · rw [hrc, nI_z (by omega), seenB_0] at c
      rw [of_not_false c, if_pos rfl] at ih
      rw [e1, tb_shl _ (by omega), tb_or]
      exact ih
theorem sX3_goodPictures (h : RCc I R EI ER En V B lt) (hv : InvB B) : qX3_goodPictures (fun r => r = nI (bitsF (goodB B) (B.1 11))) I R CI CJ CR CG EI ER Eq En V := lX3_goodPictures h hv _ 0 (Nat.zero_add _)
theorem lX3_childrenInGood (h : RCc I R EI ER En V B lt) (hv : InvB B) : ∀ n k, k + n = B.1 11 → qX3_childrenInGood_4 (fun r => r = nI (orN (seenB B) (B.1 11))) I R CI CJ CR CG EI ER Eq En V (nI (orN (seenB B) k)) (nI k)
  | 0, k, e => by
    have hn := hv.np
    refine kX3_childrenInGood_4 ⟨fun _ => ?_, fun c => ?_⟩
    · have e : k = B.1 11 := by omega
      subst e
      rfl
    · rw [h.i4, nI_leI (by omega) (by omega)] at c
      omega
  | n + 1, k, e => by
    have hn := hv.np
    have ih := lX3_childrenInGood h hv n (k + 1) (by omega)
    rw [← nI_1, orN] at ih
    refine kX3_childrenInGood_4 ⟨fun c => ?_, fun _ => ⟨_, sX3_shownIn h hv (p := k) (by omega), fun rc hrc x1 e1 => ?_⟩⟩
    · rw [h.i4, nI_leI (by omega) (by omega)] at c
      omega
    · rw [e1, hrc, tb_or]
      exact ih
theorem sX3_childrenInGood (h : RCc I R EI ER En V B lt) (hv : InvB B) : qX3_childrenInGood (fun r => r = nI (orN (seenB B) (B.1 11))) I R CI CJ CR CG EI ER Eq En V := lX3_childrenInGood h hv _ 0 (Nat.zero_add _)
/-- how many pictures of the choice show one of some children -/
def showB (B : Bk) (S n : Nat) : Nat := fb_ct (fun p => (B.1 16).testBit p && !((seenB B p &&& S) == 0)) n
theorem showB_succ (S n : Nat) : showB B S (n + 1) = showB B S n + (if (B.1 16).testBit n && !((seenB B n &&& S) == 0) then 1 else 0) := rfl
theorem and_lt {a b n : Nat} (h : a < 2 ^ n) : a &&& b < 2 ^ n := Nat.lt_of_le_of_lt Nat.and_le_left h
theorem lX3_chosenShowing (h : RCc I R EI ER En V B lt) (hv : InvB B) (S : Nat) : ∀ n k, k + n = B.1 11 → qX3_chosenShowing_4 (fun r => r = nI (showB B S (B.1 11))) (nI S) I R CI CJ CR CG EI ER Eq En V (nI (showB B S k)) (nI k)
  | 0, k, e => by
    have hn := hv.np
    refine kX3_chosenShowing_4 ⟨fun _ => ?_, fun c => ?_⟩
    · have e : k = B.1 11 := by omega
      subst e
      rfl
    · rw [h.i4, nI_leI (by omega) (by omega)] at c
      omega
  | n + 1, k, e => by
    have hn := hv.np
    have hs := and_lt (b := S) (seenB_lt hv k)
    have ih := lX3_chosenShowing h hv S n (k + 1) (by omega)
    rw [← nI_1, showB_succ] at ih
    refine kX3_chosenShowing_4 ⟨fun c => ?_, fun _ => ⟨_, sX3_isChosen h hv (p := k) (by omega), fun rc hrc => ⟨fun c => ?_, fun c => ⟨_, sX3_shownIn h hv (p := k) (by omega), fun rc2 hrc2 => ⟨fun c2 => ?_, fun c2 => ?_⟩⟩⟩⟩⟩
    · rw [h.i4, nI_leI (by omega) (by omega)] at c
      omega
    · rw [hrc, b2i_0] at c
      rw [c, Bool.false_and, if_neg (by decide), Nat.add_zero] at ih
      exact ih
    · rw [hrc, b2i_n0] at c
      rw [hrc2, fa_and, nI_z (by omega)] at c2
      rw [c, c2, if_neg (by decide), Nat.add_zero] at ih
      exact ih
    · rw [hrc, b2i_n0] at c
      rw [hrc2, fa_and, nI_z (by omega)] at c2
      rw [c, if_pos (by simp [c2])] at ih
      rw [nI_1]
      exact ih
theorem sX3_chosenShowing (h : RCc I R EI ER En V B lt) (hv : InvB B) (S : Nat) : qX3_chosenShowing (fun r => r = nI (showB B S (B.1 11))) (nI S) I R CI CJ CR CG EI ER Eq En V := lX3_chosenShowing h hv S _ 0 (Nat.zero_add _)
theorem show_times (c : Nat) : ∀ n, showB B (2 ^ c) n = timesB B (B.1 16) c n
  | 0 => rfl
  | n + 1 => by
    rw [showB_succ, timesB_succ, show_times c n]
    have e : (!((seenB B n &&& 2 ^ c) == 0)) = (seenB B n).testBit c := by
      have := fb_bit_nat (seenB B n) c
      cases hb : (seenB B n).testBit c
      · rw [this.mpr hb]; rfl
      · have h2 : ¬ (seenB B n &&& 2 ^ c) = 0 := fun h => by rw [this.mp h] at hb; cases hb
        simp [h2]
    rw [e]
end
