/-! name -/
section
variable (B : Bk) (p : Nat)
def wi (f : Nat) : Nat := B.2 7 (8 * p + f)
def xi (f : Nat) : Nat := B.2 8 (8 * p + f)
def yi (f : Nat) : Nat := B.2 9 (8 * p + f)
/-- one face before another in a row -/
def bef (g f : Nat) : Bool := decide (xi B p g < xi B p f) || (decide (xi B p g = xi B p f) && decide (wi B p g < wi B p f))
def rankN (r f n : Nat) : Nat := fb_ct (fun g => r.testBit g && bef B p g f) n
def rowName (r t : Nat) : Int32 := if fa_first (fun f => r.testBit f && decide (rankN B p r f (B.2 6 p) = t)) (B.2 6 p) < B.2 6 p then nI (wi B p (fa_first (fun f => r.testBit f && decide (rankN B p r f (B.2 6 p) = t)) (B.2 6 p))) else -1
def topY (W : Nat) : Nat → Nat
  | 0 => 1000
  | n + 1 => if W.testBit n then (if yi B p n < topY W n then yi B p n else topY W n) else topY W n
def inRow (W f : Nat) : Bool := W.testBit f && decide (yi B p f ≤ topY B p W (B.2 6 p) + B.1 12)
def rowS (W : Nat) : Nat := bitsF (inRow B p W) (B.2 6 p)
def nmB : Nat → Nat → Nat → Int32
  | 0, _, _ => -1
  | m + 1, W, i => if W = 0 then -1 else if i < cnt (rowS B p W) then rowName B p (rowS B p W) i else nmB m (andN W (rowS B p W)) (i - cnt (rowS B p W))
end
theorem topY_le (B : Bk) (p W : Nat) : ∀ n, topY B p W n ≤ 1000
  | 0 => Nat.le_refl _
  | n + 1 => by
    have := topY_le B p W n
    rw [topY]
    split
    · split <;> omega
    · exact this
theorem topY_min (B : Bk) (p W : Nat) : ∀ n f, f < n → W.testBit f = true → topY B p W n ≤ yi B p f
  | 0, f, h, _ => absurd h (Nat.not_lt_zero f)
  | n + 1, f, h, hf => by
    rw [topY]
    by_cases e : f = n
    · subst e
      rw [if_pos hf]
      split <;> omega
    · have := topY_min B p W n f (by omega) hf
      split
      · split <;> omega
      · exact this
theorem topY_in (B : Bk) (p W : Nat) : ∀ n, topY B p W n = 1000 ∨ ∃ f, f < n ∧ W.testBit f = true ∧ topY B p W n = yi B p f
  | 0 => Or.inl rfl
  | n + 1 => by
    have ih := topY_in B p W n
    rw [topY]
    have k : ∀ {z}, (z = 1000 ∨ ∃ f, f < n ∧ W.testBit f = true ∧ z = yi B p f) → (z = 1000 ∨ ∃ f, f < n + 1 ∧ W.testBit f = true ∧ z = yi B p f) := fun h => h.elim Or.inl (fun ⟨f, h1, h2, h3⟩ => Or.inr ⟨f, by omega, h2, h3⟩)
    split
    · rename_i hb
      split
      · exact Or.inr ⟨n, by omega, hb, rfl⟩
      · exact k ih
    · exact k ih
section
variable {I : Nat → Int32} {R : Nat → Nat → Int32} {B : Bk} {p : Nat}
theorem rowS_tb (W i : Nat) : (rowS B p W).testBit i = (decide (i < B.2 6 p) && inRow B p W i) := bitsF_tb _ _ _
theorem rowS_sub {W i : Nat} (h : (rowS B p W).testBit i = true) : W.testBit i = true := by
  rw [rowS_tb, Bool.and_eq_true] at h
  unfold inRow at h
  rw [Bool.and_eq_true] at h
  exact h.2.1
theorem rowS_lt (W : Nat) : rowS B p W < 2 ^ B.2 6 p := bitsF_lt _ _
theorem tb_some {W n : Nat} (h : W < 2 ^ n) (h0 : W ≠ 0) : ∃ f, f < n ∧ W.testBit f = true := by
  rcases Nat.eq_zero_or_pos (fb_ct (fun i => W.testBit i) n) with z | z
  · exfalso
    apply h0
    apply Nat.eq_of_testBit_eq
    intro i
    rw [Nat.zero_testBit]
    rcases Nat.lt_or_ge i n with g | g
    · exact fb_ct_zero.mp z i g
    · exact Nat.testBit_lt_two_pow (Nat.lt_of_lt_of_le h (Nat.pow_le_pow_right (by decide) g))
  · exact fb_ct_pos.mp z
theorem top_ok (hv : InvB B) {W : Nat} (hW : W < 2 ^ B.2 6 p) (h0 : W ≠ 0) : ∃ f, f < B.2 6 p ∧ W.testBit f = true ∧ topY B p W (B.2 6 p) = yi B p f ∧ yi B p f ≤ 99 := by
  obtain ⟨f, hf, hb⟩ := tb_some hW h0
  have h1 := topY_min B p W _ f hf hb
  have h2 : yi B p f ≤ 99 := hv.y _
  rcases topY_in B p W (B.2 6 p) with e | ⟨g, h3, h4, h5⟩
  · omega
  · exact ⟨g, h3, h4, h5, hv.y _⟩
theorem rowS_ne (hv : InvB B) {W : Nat} (hW : W < 2 ^ B.2 6 p) (h0 : W ≠ 0) : rowS B p W ≠ 0 := fun e => by
  obtain ⟨f, hf, hb, ht, -⟩ := top_ok hv hW h0
  have h9 : (rowS B p W).testBit f = true := by
    rw [rowS_tb, decide_eq_true hf]
    unfold inRow
    rw [hb, decide_eq_true (by omega)]; rfl
  rw [e, Nat.zero_testBit] at h9
  cases h9
/-! the order in a row -/
theorem bef_iff (g f : Nat) : bef B p g f = true ↔ (xi B p g < xi B p f ∨ (xi B p g = xi B p f ∧ wi B p g < wi B p f)) := by
  unfold bef
  simp
theorem bef_trans {a b c : Nat} (h1 : bef B p a b = true) (h2 : bef B p b c = true) : bef B p a c = true := by
  rw [bef_iff] at *
  omega
theorem bef_irr (a : Nat) : bef B p a a = false := by
  rcases h : bef B p a a with _ | _
  · rfl
  · rw [bef_iff] at h
    omega
theorem bef_tot (hv : InvB B) {a b : Nat} (ha : a < B.2 6 p) (hb : b < B.2 6 p) (h : a ≠ b) : bef B p a b = true ∨ bef B p b a = true := by
  have hne : wi B p a ≠ wi B p b := fun e => h (hv.once p a b ha hb e)
  rw [bef_iff, bef_iff]
  omega
theorem rank_lt {r a b : Nat} (ha : a < B.2 6 p) (hr : r.testBit a = true) (h : bef B p a b = true) : rankN B p r a (B.2 6 p) < rankN B p r b (B.2 6 p) := by
  refine ct_lt (fun k _ hk => ?_) ⟨a, ha, ?_, ?_⟩
  · rw [Bool.and_eq_true] at hk ⊢
    exact ⟨hk.1, bef_trans hk.2 h⟩
  · rw [hr, h]; rfl
  · rw [bef_irr, Bool.and_false]
theorem rowName_at (hv : InvB B) {r f t : Nat} (hf : f < B.2 6 p) (hr : r.testBit f = true) (ht : rankN B p r f (B.2 6 p) = t) : rowName B p r t = nI (wi B p f) := by
  have hP : (fun f => r.testBit f && decide (rankN B p r f (B.2 6 p) = t)) f = true := by
    show (r.testBit f && decide (rankN B p r f (B.2 6 p) = t)) = true
    rw [hr, decide_eq_true ht]; rfl
  have e : fa_first (fun f => r.testBit f && decide (rankN B p r f (B.2 6 p) = t)) (B.2 6 p) = f := by
    refine first_eq hf (fun j hj => ?_) hP
    cases hz : r.testBit j && decide (rankN B p r j (B.2 6 p) = t)
    · rfl
    · exfalso
      rw [Bool.and_eq_true] at hz
      have h2 := of_decide_eq_true hz.2
      rcases bef_tot hv (p := p) (a := j) (b := f) (by omega) hf (by omega) with g | g
      · have := rank_lt (p := p) (r := r) (by omega) hz.1 g
        omega
      · have := rank_lt (p := p) (r := r) hf hr g
        omega
  unfold rowName
  rw [e, if_pos hf]
/-! the class -/
theorem lX2_top7 (hv : InvB B) (h : PicF I R B p) {W : Nat} (hW : W < 2 ^ 31) {post : Int32 → Prop} {p2 : Int32} (h1 : qX2_topRow_49 post (nI W) p2 I R (nI (topY B p W (B.2 6 p))) 0 0) : ∀ n k, k + n = B.2 6 p → qX2_topRow_7 post (nI W) p2 I R (nI (topY B p W k)) (nI k)
  | 0, k, e => by
    have hnf := hv.nf p
    have e : k = B.2 6 p := by omega
    subst e
    refine kX2_topRow_7 ⟨fun _ => h1, fun c => ?_⟩
    rw [h.2.2.2.1, nI_leI (by omega) (by omega)] at c
    omega
  | n + 1, k, e => by
    have hnf := hv.nf p
    have hy : yi B p k ≤ 99 := hv.y _
    have ht := topY_le B p W k
    have ih := lX2_top7 hv h hW h1 n (k + 1) (by omega)
    rw [← nI_1, topY] at ih
    refine kX2_topRow_7 ⟨fun c => ?_, fun _ => ⟨fun c => ?_, fun c => ⟨vp_in_nI (by omega) (by decide), fun v ev => ?_⟩⟩⟩
    · rw [h.2.2.2.1, nI_leI (by omega) (by omega)] at c
      omega
    · rw [tb_0 hW (by omega)] at c
      rw [c, if_neg (by decide)] at ih
      exact ih
    · rw [tb_0 hW (by omega)] at c
      rw [if_pos (of_not_false c)] at ih
      rw [nI_clamp (by omega), (h.2.2.2.2 k (by omega)).2.2.1] at ev
      have ev : v = if nI (yi B p k) < nI (topY B p W k) then nI (yi B p k) else nI (topY B p W k) := ev
      have ev2 : v = nI (if yi B p k < topY B p W k then yi B p k else topY B p W k) := by
        rw [ev]
        by_cases g : yi B p k < topY B p W k
        · rw [if_pos g, if_pos (nI_lt g (by omega))]
        · rw [if_neg g, if_neg (nI_nlt (by omega) (by omega))]
      rw [ev2]
      exact ih
theorem lX2_top49 (hv : InvB B) (h : PicF I R B p) {W : Nat} (hW : W < 2 ^ 31) : ∀ n k, k + n = B.2 6 p → qX2_topRow_49 (fun r => r = nI (rowS B p W)) (nI W) (nI (B.1 12)) I R (nI (topY B p W (B.2 6 p))) (nI (bitsF (inRow B p W) k)) (nI k)
  | 0, k, e => by
    have hnf := hv.nf p
    have e : k = B.2 6 p := by omega
    subst e
    refine kX2_topRow_49 ⟨fun _ => rfl, fun c => ?_⟩
    rw [h.2.2.2.1, nI_leI (by omega) (by omega)] at c
    omega
  | n + 1, k, e => by
    have hnf := hv.nf p
    have hy : yi B p k ≤ 99 := hv.y _
    have ht := topY_le B p W (B.2 6 p)
    have hs := hv.span
    have ih := lX2_top49 hv h hW n (k + 1) (by omega)
    rw [← nI_1, bitsF] at ih
    refine kX2_topRow_49 ⟨fun c => ?_, fun _ => ⟨fun c => ?_, fun c => ⟨vp_in_nI (by omega) (by decide), ?_⟩⟩⟩
    · rw [h.2.2.2.1, nI_leI (by omega) (by omega)] at c
      omega
    · rw [tb_0 hW (by omega)] at c
      have : inRow B p W k = false := by unfold inRow; rw [c]; rfl
      rw [this, if_neg (by decide), Nat.or_zero] at ih
      exact ih
    · rw [tb_0 hW (by omega)] at c
      have c := of_not_false c
      have e6 : R 6 k = nI (yi B p k) := (h.2.2.2.2 k (by omega)).2.2.1
      rw [nI_clamp (by omega), e6, iI_nat (yi B p k), iI_nat (topY B p W (B.2 6 p)), iI_sub, iI_nat (B.1 12), iI_lt (by omega) (by omega) (by omega) (by omega)]
      rw [← iI_nat, ← iI_nat]
      refine ⟨fun g => ?_, fun g x4 e4 => ?_⟩
      · have : inRow B p W k = false := by unfold inRow; rw [decide_eq_false (by omega), Bool.and_false]
        rw [this, if_neg (by decide), Nat.or_zero] at ih
        exact ih
      · have : inRow B p W k = true := by unfold inRow; rw [c, decide_eq_true (by omega)]; rfl
        rw [this, if_pos rfl] at ih
        rw [e4, tb_shl _ (by omega), tb_or]
        exact ih
theorem sX2_topRow (hv : InvB B) (h : PicF I R B p) {W : Nat} (hW : W < 2 ^ 31) : qX2_topRow (fun r => r = nI (rowS B p W)) (nI W) (nI (B.1 12)) I R := lX2_top7 hv h hW (lX2_top49 hv h hW _ 0 (Nat.zero_add _)) _ 0 (Nat.zero_add _)
theorem lX2_leftOf (hv : InvB B) (h : PicF I R B p) {r f : Nat} (hr : r < 2 ^ 31) (hf : f < B.2 6 p) : ∀ n k, k + n = B.2 6 p → qX2_leftOf_5 (fun z => z = nI (rankN B p r f (B.2 6 p))) (nI f) (nI r) I R (nI (rankN B p r f k)) (nI k)
  | 0, k, e => by
    have hnf := hv.nf p
    have e : k = B.2 6 p := by omega
    subst e
    refine kX2_leftOf_5 ⟨fun _ => rfl, fun c => ?_⟩
    rw [h.2.2.2.1, nI_leI (by omega) (by omega)] at c
    omega
  | n + 1, k, e => by
    have hnf := hv.nf p
    have ih := lX2_leftOf hv h hr hf n (k + 1) (by omega)
    have es : rankN B p r f (k + 1) = rankN B p r f k + (if r.testBit k && bef B p k f then 1 else 0) := rfl
    rw [← nI_1, es] at ih
    have x1 : xi B p k ≤ 99 := hv.x _
    have x2 : xi B p f ≤ 99 := hv.x _
    have w1 : wi B p k < 16 := hv.who _
    have w2 : wi B p f < 16 := hv.who _
    have no : (r.testBit k && bef B p k f) = false → qX2_leftOf_5 (fun z => z = nI (rankN B p r f (B.2 6 p))) (nI f) (nI r) I R (nI (rankN B p r f k)) (nI k + 1) := fun g => by
      rw [g, if_neg (by decide), Nat.add_zero] at ih
      exact ih
    have yes : (r.testBit k && bef B p k f) = true → qX2_leftOf_5 (fun z => z = nI (rankN B p r f (B.2 6 p))) (nI f) (nI r) I R (nI (rankN B p r f k) + 1) (nI k + 1) := fun g => by
      rw [g, if_pos rfl, ← nI_1] at ih
      exact ih
    refine kX2_leftOf_5 ⟨fun c => ?_, fun _ => ⟨fun c => ?_, fun c => ⟨vp_in_nI (by omega) (by decide), vp_in_nI (by omega) (by decide), ?_⟩⟩⟩
    · rw [h.2.2.2.1, nI_leI (by omega) (by omega)] at c
      omega
    · rw [tb_0 hr (by omega)] at c
      exact no (by rw [c]; rfl)
    · rw [tb_0 hr (by omega)] at c
      have c := of_not_false c
      have a1 : R 5 k = nI (xi B p k) := (h.2.2.2.2 k (by omega)).2.1
      have a2 : R 5 f = nI (xi B p f) := (h.2.2.2.2 f hf).2.1
      have a3 : R 4 k = nI (wi B p k) := (h.2.2.2.2 k (by omega)).1
      have a4 : R 4 f = nI (wi B p f) := (h.2.2.2.2 f hf).1
      rw [nI_clamp (by omega), nI_clamp (by omega), a1, a2, a3, a4, nI_ltI (by omega) (by omega), nI_eq (by omega) (by omega), nI_leI (by omega) (by omega)]
      have bt : bef B p k f = true → (r.testBit k && bef B p k f) = true := fun g => by rw [c, g]; rfl
      have bn : ¬ bef B p k f = true → (r.testBit k && bef B p k f) = false := fun g => by rw [of_not_true g, Bool.and_false]
      refine ⟨fun g => yes (bt ?_), fun g => ⟨fun g2 => no (bn ?_), fun g2 => ⟨fun g3 => no (bn ?_), fun g3 => yes (bt ?_)⟩⟩⟩
      · rw [bef_iff]; omega
      · rw [bef_iff]; omega
      · rw [bef_iff]; omega
      · rw [bef_iff]; omega
theorem lX2_child (hv : InvB B) (h : PicF I R B p) {r t : Nat} (hr : r < 2 ^ 31) (ht : t < 2 ^ 31) : ∀ n k, k + n = B.2 6 p → (∀ j, j < k → (r.testBit j && decide (rankN B p r j (B.2 6 p) = t)) = false) → qX2_childInRow_2 (fun z => z = rowName B p r t) (nI r) (nI t) I R (nI k)
  | 0, k, e, hk => by
    have hnf := hv.nf p
    have e : k = B.2 6 p := by omega
    subst e
    refine kX2_childInRow_2 ⟨fun _ => ?_, fun c => ?_⟩
    · show (-1 : Int32) = rowName B p r t
      unfold rowName
      rw [first_none hk, if_neg (Nat.lt_irrefl _)]
    · rw [h.2.2.2.1, nI_leI (by omega) (by omega)] at c
      omega
  | n + 1, k, e, hk => by
    have hnf := hv.nf p
    have next : (r.testBit k && decide (rankN B p r k (B.2 6 p) = t)) = false → qX2_childInRow_2 (fun z => z = rowName B p r t) (nI r) (nI t) I R (nI k + 1) := fun g => by
      rw [nI_1]
      exact lX2_child hv h hr ht n (k + 1) (by omega) (lt_s hk g)
    have hrk : rankN B p r k (B.2 6 p) ≤ B.2 6 p := fb_ct_le _ _
    refine kX2_childInRow_2 ⟨fun c => ?_, fun _ => ⟨fun c => ?_, fun c => ⟨_, lX2_leftOf hv h hr (f := k) (by omega) _ 0 (Nat.zero_add _), fun rc hrc => ⟨fun g => ?_, fun g => ?_⟩⟩⟩⟩
    · rw [h.2.2.2.1, nI_leI (by omega) (by omega)] at c
      omega
    · rw [tb_0 hr (by omega)] at c
      exact next (by rw [c]; rfl)
    · rw [hrc, nI_eq (by omega) ht] at g
      exact next (by rw [decide_eq_false g, Bool.and_false])
    · rw [tb_0 hr (by omega)] at c
      rw [hrc, nI_eq (by omega) ht] at g
      rw [nI_clamp (by omega)]
      refine ⟨vp_in_nI (by omega) (by decide), ?_⟩
      show R 4 k = rowName B p r t
      rw [rowName_at hv (by omega) (of_not_false c) g]
      exact (h.2.2.2.2 k (by omega)).1
theorem lX2_nameAt (hv : InvB B) (h : PicF I R B p) {p1 : Int32} : ∀ m k W i, k + m = 8 → W < 2 ^ 8 → i < 2 ^ 31 → qX2_nameAt_11 (fun r => r = nmB B p m W i) p1 (nI (B.1 12)) I R (nI W) (nI i) (nI k)
  | 0, k, W, i, e, hW, hi => by
    refine kX2_nameAt_11 ⟨fun _ => rfl, fun c => ?_⟩
    rw [show (8 : Int32) = nI 8 from rfl, nI_leI (by omega) (by omega)] at c
    omega
  | m + 1, k, W, i, e, hW, hi => by
    have hnf := hv.nf p
    have hr8 : rowS B p W < 2 ^ 8 := Nat.lt_of_lt_of_le (rowS_lt W) (Nat.pow_le_pow_right (by decide) hnf)
    have hc := cnt_le (S := rowS B p W)
    refine kX2_nameAt_11 ⟨fun c => ?_, fun _ => ⟨fun c => ?_, fun c => ⟨_, sX2_topRow hv h (by omega), fun rc hrc => ?_⟩⟩⟩
    · rw [show (8 : Int32) = nI 8 from rfl, nI_leI (by omega) (by omega)] at c
      omega
    · rw [nI_z (by omega)] at c
      show (-1 : Int32) = nmB B p (m + 1) W i
      rw [nmB, if_pos c]
    · rw [nI_z (by omega)] at c
      rw [hrc]
      refine ⟨_, sJ6_bitCount (by omega), fun rc2 hrc2 => ?_⟩
      rw [hrc2, nI_leI (by omega) hi]
      refine ⟨fun g x4 e4 x3 e3 => ?_, fun g => ⟨_, lX2_child hv h (by omega) hi _ 0 (Nat.zero_add _) (fun j hj => absurd hj (Nat.not_lt_zero j)), fun rc3 hrc3 => ?_⟩⟩
      · rw [pk_sub g] at e4
        rw [tb_andN] at e3
        rw [e4, e3, nI_1, nmB, if_neg c, if_neg (by omega)]
        exact lX2_nameAt hv h m (k + 1) _ _ (by omega) (andN_lt hW) (by omega)
      · show rc3 = nmB B p (m + 1) W i
        rw [hrc3, nmB, if_neg c, if_pos (by omega)]
theorem sX2_nameAt (hv : InvB B) (h : PicR I R B p) {i : Nat} (hi : i < 2 ^ 31) : qX2_nameAt (fun r => r = nmB B p 8 (allow B p) i) (nI i) (nI (B.1 12)) I R := by
  intro x3 e3
  rw [h.2.1] at e3
  rw [e3]
  exact lX2_nameAt hv h.1 8 0 _ _ rfl (allow_lt hv p) hi
end
