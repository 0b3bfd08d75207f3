/-! name: the reference -/
def pNm (B : Bk) (p : Nat) : Int32 → (Nat → Int32) → (Nat → Nat → Int32) → Prop := fun r I R => ∃ n, r = nI n ∧ n ≤ 8 ∧ RM I R B ∧ (∀ j, j < n → R 21 j = nmB B p 8 (allow B p) j) ∧ ∀ j, n ≤ j → nmB B p 8 (allow B p) j = -1
theorem nmB_0 (B : Bk) (p : Nat) : ∀ m j, nmB B p m 0 j = -1
  | 0, _ => rfl
  | m + 1, j => by rw [nmB, if_pos rfl]
theorem xor_andN {W r : Nat} (h : ∀ i, r.testBit i = true → W.testBit i = true) : W ^^^ r = andN W r := by
  apply Nat.eq_of_testBit_eq
  intro i
  rw [andN_tb, Nat.testBit_xor]
  cases e : r.testBit i
  · simp
  · rw [h i e]; rfl
section
variable {I : Nat → Int32} {R : Nat → Nat → Int32} {B : Bk} {p : Nat}
theorem lX4_na186 (hv : InvB B) (h : RM I R B) (hp : p < 14) {of : Nat} (hof : of < 2 ^ B.2 6 p) (h0 : of ≠ 0) {x2 x3 : Int32} {post : Int32 → (Nat → Int32) → (Nat → Nat → Int32) → Prop}
    (hfin : ∀ f, f < B.2 6 p → of.testBit f = true → (∀ g, g < B.2 6 p → of.testBit g = true → bef B p g f = false) → ∀ x5 : Int32, x5 = nI of ^^^ ((1 : Int32) <<< (nI f &&& 31)) → vp_in (8 * nI p + nI f) 112 ∧ (vp_in x3 8 ∧ qX4_nameAll_175 post (nI p) x2 (x3 + 1) x5 I (va_up R 21 (upd (R 21) x3.toNatClampNeg (R 7 (8 * nI p + nI f).toNatClampNeg))))) :
    ∀ n k, k + n = B.2 6 p → ∀ x6 : Int32, (((∀ g, g < k → of.testBit g = false) ∧ x6 = -1) ∨ ∃ f, f < k ∧ of.testBit f = true ∧ x6 = nI f ∧ ∀ g, g < k → of.testBit g = true → bef B p g f = false) → qX4_nameAll_186 post (nI p) x2 x3 (nI of) x6 (nI k) I R
  | 0, k, e, x6, hx => by
    have hnf := hv.nf p
    have e : k = B.2 6 p := by omega
    subst e
    refine kX4_nameAll_186 ⟨vp_in_nI hp (by decide), fun _ => ?_, fun c => ?_⟩
    · rcases hx with ⟨hn, -⟩ | ⟨f, hf, hb, e6, hm⟩
      · obtain ⟨f, hf, hb⟩ := tb_some hof h0
        rw [hn f hf] at hb
        cases hb
      · rw [e6]
        exact hfin f hf hb hm
    · rw [nI_clamp (by omega), h.r6, nI_leI (by omega) (by omega)] at c
      omega
  | n + 1, k, e, x6, hx => by
    have hnf := hv.nf p
    have hof31 : of < 2 ^ 31 := Nat.lt_of_lt_of_le hof (Nat.pow_le_pow_right (by decide) (by omega))
    have next : ∀ x6 : Int32, (((∀ g, g < k + 1 → of.testBit g = false) ∧ x6 = -1) ∨ ∃ f, f < k + 1 ∧ of.testBit f = true ∧ x6 = nI f ∧ ∀ g, g < k + 1 → of.testBit g = true → bef B p g f = false) → qX4_nameAll_186 post (nI p) x2 x3 (nI of) x6 (nI k + 1) I R := fun x6 hx => by
      rw [nI_1]
      exact lX4_na186 hv h hp hof h0 hfin n (k + 1) (by omega) x6 hx
    refine kX4_nameAll_186 ⟨vp_in_nI hp (by decide), fun c => ?_, fun _ => ⟨fun c x8 e8 x9 e9 => ?_, fun c => next _ ?_⟩⟩
    · rw [nI_clamp (by omega), h.r6, nI_leI (by omega) (by omega)] at c
      omega
    · rw [tb_0 hof31 (by omega)] at c
      have c := of_not_false c
      rcases hx with ⟨hn, e6⟩ | ⟨f, hf, hb, e6, hm⟩
      · refine ⟨fun _ => next _ (Or.inr ⟨k, by omega, c, rfl, fun g hg hgb => ?_⟩), fun g => absurd e6 g⟩
        by_cases eg : g = k
        · rw [eg]; exact bef_irr k
        · rw [hn g (by omega)] at hgb
          cases hgb
      · have keep : bef B p k f = false → qX4_nameAll_186 post (nI p) x2 x3 (nI of) x6 (nI k + 1) I R := fun g => next _ (Or.inr ⟨f, by omega, hb, e6, fun j hj hjb => by
          by_cases ej : j = k
          · rw [ej]; exact g
          · exact hm j (by omega) hjb⟩)
        have take : bef B p k f = true → qX4_nameAll_186 post (nI p) x2 x3 (nI of) (nI k) (nI k + 1) I R := fun g => next _ (Or.inr ⟨k, by omega, c, rfl, fun j hj hjb => by
          by_cases ej : j = k
          · rw [ej]; exact bef_irr k
          · cases hz : bef B p j k
            · rfl
            · have := bef_trans hz g
              rw [hm j (by omega) hjb] at this
              cases this⟩)
        have x1 : xi B p k ≤ 99 := hv.x _
        have y1 : xi B p f ≤ 99 := hv.x _
        have w1 : wi B p k < 16 := hv.who _
        have w2 : wi B p f < 16 := hv.who _
        have a1 : R 8 (8 * p + k) = nI (xi B p k) := h.r8 _
        have a2 : R 8 (8 * p + f) = nI (xi B p f) := h.r8 _
        have a3 : R 7 (8 * p + k) = nI (wi B p k) := h.r7 _
        have a4 : R 7 (8 * p + f) = nI (wi B p f) := h.r7 _
        rw [at8] at e8
        rw [e6, at8] at e9
        subst e8 e9
        rw [nI_clamp (by omega), nI_clamp (by omega), a1, a2, a3, a4, nI_ltI (by omega) (by omega), nI_eq (by omega) (by omega), nI_leI (by omega) (by omega)]
        have nob : ¬ bef B p k f = true → bef B p k f = false := of_not_true
        refine ⟨fun g => ?_, fun _ => ⟨in112 hp (by omega), in112 hp (by omega), fun g => take ?_, fun g => ⟨fun g2 => keep (nob ?_), fun g2 => ⟨fun g3 => keep (nob ?_), fun g3 => take ?_⟩⟩⟩⟩
        · exfalso
          rw [e6, fa_eq, nI_toInt (by omega)] at g
          have g : ((f : Nat) : Int) = -1 := g
          omega
        · rw [bef_iff]; omega
        · rw [bef_iff]; omega
        · rw [bef_iff]; omega
        · rw [bef_iff]; omega
    · rw [tb_0 hof31 (by omega)] at c
      rcases hx with ⟨hn, e6⟩ | ⟨f, hf, hb, e6, hm⟩
      · exact Or.inl ⟨lt_s hn c, e6⟩
      · refine Or.inr ⟨f, by omega, hb, e6, fun g hg hgb => ?_⟩
        by_cases eg : g = k
        · rw [eg, c] at hgb; cases hgb
        · exact hm g (by omega) hgb
theorem lX4_na175 (hv : InvB B) (hp : p < 14) {r n0 : Nat} {x2 : Int32} (hr : r < 2 ^ B.2 6 p) {N : Nat → Int32} {post : Int32 → (Nat → Int32) → (Nat → Nat → Int32) → Prop} (h8 : n0 + cnt r ≤ 8) (hN : ∀ j, j < cnt r → N (n0 + j) = rowName B p r j)
    (hend : ∀ R : Nat → Nat → Int32, RM I R B → (∀ j, j < n0 + cnt r → R 21 j = N j) → qX4_nameAll_37 post (nI p) x2 (nI (n0 + cnt r)) I R) :
    ∀ c of n, cnt of = c → of < 2 ^ B.2 6 p → n + c = n0 + cnt r → n0 ≤ n → (∀ i, of.testBit i = true → r.testBit i = true) → (∀ g f, g < B.2 6 p → r.testBit g = true → of.testBit g = false → of.testBit f = true → bef B p g f = true) → ∀ R : Nat → Nat → Int32, RM I R B → (∀ j, j < n → R 21 j = N j) → qX4_nameAll_175 post (nI p) x2 (nI n) (nI of) I R
  | 0, of, n, hc, hof, hn, hn0, hsub, hord, R, h, hR => by
    have hnf := hv.nf p
    have hof14 : of < 2 ^ 14 := Nat.lt_of_lt_of_le hof (Nat.pow_le_pow_right (by decide) (by omega))
    have e : of = 0 := by
      rcases Nat.eq_zero_or_pos of with z | z
      · exact z
      · have := cnt_pos hof14 (by omega)
        omega
    have en : n = n0 + cnt r := by omega
    subst e en
    exact kX4_nameAll_175 ⟨fun _ => hend R h hR, fun c => absurd rfl c⟩
  | c + 1, of, n, hc, hof, hn, hn0, hsub, hord, R, h, hR => by
    have hnf := hv.nf p
    have hof14 : of < 2 ^ 14 := Nat.lt_of_lt_of_le hof (Nat.pow_le_pow_right (by decide) (by omega))
    have h0 : of ≠ 0 := fun e => by rw [e, cnt_0] at hc; omega
    refine kX4_nameAll_175 ⟨fun g => ?_, fun _ => lX4_na186 hv h hp hof h0 (fun f hf hb hm x5 e5 => ?_) _ 0 (Nat.zero_add _) _ (Or.inl ⟨fun g hg => absurd hg (Nat.not_lt_zero g), rfl⟩)⟩
    · rw [nI_z (by omega)] at g
      exact absurd g h0
    · rw [tb_shl _ (by omega), fb_xorI] at e5
      rw [e5, at8, nI_clamp (by omega), nI_clamp (by omega), nI_1]
      refine ⟨in112 hp (by omega), vp_in_nI (by omega) (by decide), ?_⟩
      have hdel := cnt_del (S := of) (f := f) (by omega) hb
      have etb : ∀ i, (of ^^^ 2 ^ f).testBit i = (of.testBit i && !decide (i = f)) := fun i => by
        rw [andN_xor hb, andN_tb, Nat.testBit_two_pow]
        congr 2
        exact decide_eq_decide.mpr ⟨fun e => e.symm, fun e => e.symm⟩
      have hrk : rankN B p r f (B.2 6 p) = n - n0 := by
        have e1 : rankN B p r f (B.2 6 p) = fb_ct (fun g => r.testBit g && !of.testBit g) (B.2 6 p) := by
          refine fb_ct_cong (fun g hg => ?_)
          cases hrg : r.testBit g
          · rfl
          · cases hog : of.testBit g
            · rw [hord g f hg hrg hog hb]; rfl
            · rw [hm g hg hog]; rfl
        have e2 : fb_ct (fun g => r.testBit g && !of.testBit g) (B.2 6 p) + fb_ct (fun g => of.testBit g) (B.2 6 p) = fb_ct (fun g => r.testBit g) (B.2 6 p) := by
          rw [← fb_ct_or]
          · refine fb_ct_cong (fun g _ => ?_)
            cases hog : of.testBit g
            · simp
            · rw [hsub g hog]; rfl
          · intro g _ hh
            rw [hh.2] at hh
            simp at hh
        rw [cnt_n hof (by omega), cnt_n hr (by omega)] at e2
        omega
      refine lX4_na175 hv hp hr h8 hN hend c _ (n + 1) (by omega) ?_ (by omega) (by omega) (fun i hi => ?_) (fun g f2 hg hrg hog hof2 => ?_) _ (h.upR (j := 21) (by decide) _) (fun j hj => ?_)
      · exact Nat.xor_lt_two_pow hof (Nat.pow_lt_pow_right (by decide) hf)
      · rw [etb, Bool.and_eq_true] at hi
        exact hsub i hi.1
      · rw [etb] at hog hof2
        rw [Bool.and_eq_true] at hof2
        have hne : f2 ≠ f := fun e => by rw [e] at hof2; simp at hof2
        by_cases eg : g = f
        · subst eg
          have hf2 : f2 < B.2 6 p := tb_ltp hof hof2.1
          rcases bef_tot hv (p := p) hg hf2 (fun e => hne e.symm) with z | z
          · exact z
          · rw [hm f2 hf2 hof2.1] at z; cases z
        · refine hord g f2 hg hrg ?_ hof2.1
          simpa [eg] using hog
      · rw [vu_eq]
        by_cases ej : j = n
        · subst ej
          rw [pk_us, h.r7]
          have := hN (j - n0) (by omega)
          rw [show n0 + (j - n0) = j by omega] at this
          rw [this, rowName_at hv hf (hsub f hb) hrk]
          rfl
        · rw [pk_un ej]
          exact hR j (by omega)
def t100 (t : Nat) : Nat := if t < 100 then t else 100
theorem lX4_na48 (hv : InvB B) (h : RM I R B) (hp : p < 14) {W : Nat} (hW : W < 2 ^ 31) {x3 : Int32} {post : Int32 → (Nat → Int32) → (Nat → Nat → Int32) → Prop} (h1 : qX4_nameAll_112 post (nI p) (nI W) x3 (nI (t100 (topY B p W (B.2 6 p)))) 0 0 I R) : ∀ n k, k + n = B.2 6 p → qX4_nameAll_48 post (nI p) (nI W) x3 (nI (t100 (topY B p W k))) (nI k) I R
  | 0, k, e => by
    have hnf := hv.nf p
    have e : k = B.2 6 p := by omega
    subst e
    refine kX4_nameAll_48 ⟨vp_in_nI hp (by decide), fun _ => h1, fun c => ?_⟩
    rw [nI_clamp (by omega), h.r6, nI_leI (by omega) (by omega)] at c
    omega
  | n + 1, k, e => by
    have hnf := hv.nf p
    have hy : yi B p k ≤ 99 := hv.y _
    have ht : t100 (topY B p W k) ≤ 100 := by unfold t100; split <;> omega
    have ih := lX4_na48 hv h hp hW h1 n (k + 1) (by omega)
    rw [← nI_1, topY] at ih
    refine kX4_nameAll_48 ⟨vp_in_nI hp (by decide), fun c => ?_, fun _ => ⟨fun c => ?_, fun c => ?_⟩⟩
    · rw [nI_clamp (by omega), h.r6, nI_leI (by omega) (by omega)] at c
      omega
    · rw [tb_1 hW (by omega)] at c
      rw [if_neg c] at ih
      exact ih
    · rw [tb_1 hW (by omega)] at c
      rw [if_pos c] at ih
      have a1 : R 9 (8 * p + k) = nI (yi B p k) := h.r9 _
      rw [at8, nI_clamp (by omega), a1, nI_leI (by omega) (by omega)]
      refine ⟨in112 hp (by omega), fun g => ?_, fun g x4 e4 => ?_⟩
      · have e9 : t100 (if yi B p k < topY B p W k then yi B p k else topY B p W k) = t100 (topY B p W k) := by
          unfold t100 at g ⊢
          split at g
          · rw [if_neg (show ¬ yi B p k < topY B p W k by omega)]
          · omega
        rw [e9] at ih
        exact ih
      · have e9 : t100 (if yi B p k < topY B p W k then yi B p k else topY B p W k) = yi B p k := by
          unfold t100 at g ⊢
          split at g
          · rw [if_pos (show yi B p k < topY B p W k by omega), if_pos (by omega)]
          · rw [if_pos (show yi B p k < topY B p W k by omega), if_pos (by omega)]
        rw [e9] at ih
        rw [e4]
        exact ih
theorem lX4_na112 (hv : InvB B) (h : RM I R B) (hp : p < 14) {W : Nat} (hW : W < 2 ^ 31) (ht : topY B p W (B.2 6 p) < 100) {x3 : Int32} {post : Int32 → (Nat → Int32) → (Nat → Nat → Int32) → Prop} (h1 : qX4_nameAll_175 post (nI p) (nI (andN W (rowS B p W))) x3 (nI (rowS B p W)) I R) : ∀ n k, k + n = B.2 6 p → qX4_nameAll_112 post (nI p) (nI W) x3 (nI (topY B p W (B.2 6 p))) (nI (bitsF (inRow B p W) k)) (nI k) I R
  | 0, k, e => by
    have hnf := hv.nf p
    have e : k = B.2 6 p := by omega
    subst e
    refine kX4_nameAll_112 ⟨vp_in_nI hp (by decide), fun _ x2 e2 => ?_, fun c => ?_⟩
    · have e2 : x2 = nI W ^^^ nI (rowS B p W) := e2
      rw [fb_xorI, xor_andN (fun i hi => rowS_sub hi)] at e2
      rw [e2]
      exact h1
    · rw [nI_clamp (by omega), h.r6, nI_leI (by omega) (by omega)] at c
      omega
  | n + 1, k, e => by
    have hnf := hv.nf p
    have hy : yi B p k ≤ 99 := hv.y _
    have hs := hv.span
    have ih := lX4_na112 hv h hp hW ht h1 n (k + 1) (by omega)
    rw [← nI_1, bitsF] at ih
    refine kX4_nameAll_112 ⟨vp_in_nI hp (by decide), fun c => ?_, fun _ => ⟨fun c => ?_, fun c => ?_⟩⟩
    · rw [nI_clamp (by omega), h.r6, nI_leI (by omega) (by omega)] at c
      omega
    · rw [tb_1 hW (by omega)] at c
      have : inRow B p W k = false := by unfold inRow; rw [of_not_true c]; rfl
      rw [this, if_neg (by decide), Nat.or_zero] at ih
      exact ih
    · rw [tb_1 hW (by omega)] at c
      have a1 : R 9 (8 * p + k) = nI (yi B p k) := h.r9 _
      rw [at8, nI_clamp (by omega), a1, h.i12, nI_add, nI_ltI (by omega) (by omega)]
      refine ⟨in112 hp (by omega), fun g => ?_, fun g x5 e5 => ?_⟩
      · have : inRow B p W k = false := by unfold inRow; rw [decide_eq_false (by omega), Bool.and_false]
        rw [this, if_neg (by decide), Nat.or_zero] at ih
        exact ih
      · have : inRow B p W k = true := by unfold inRow; rw [c, decide_eq_true (by omega)]; rfl
        rw [this, if_pos rfl] at ih
        rw [e5, tb_shl _ (by omega), tb_or]
        exact ih
theorem lX4_na37 (hv : InvB B) (hp : p < 14) : ∀ m W n, W < 2 ^ B.2 6 p → cnt W ≤ m → n + cnt W ≤ 8 → (∀ j, nmB B p 8 (allow B p) (n + j) = nmB B p m W j) → ∀ R : Nat → Nat → Int32, RM I R B → (∀ j, j < n → R 21 j = nmB B p 8 (allow B p) j) → qX4_nameAll_37 (pNm B p) (nI p) (nI W) (nI n) I R
  | m, W, n, hW, hm, h8, hN, R, h, hR => by
    have hnf := hv.nf p
    have hW14 : W < 2 ^ 14 := Nat.lt_of_lt_of_le hW (Nat.pow_le_pow_right (by decide) (by omega))
    refine kX4_nameAll_37 ⟨fun c => ?_, fun c => ?_⟩
    · rw [nI_z (by omega)] at c
      subst c
      refine ⟨n, rfl, by omega, h, hR, fun j hj => ?_⟩
      have := hN (j - n)
      rw [show n + (j - n) = j by omega, nmB_0] at this
      exact this
    · rw [nI_z (by omega)] at c
      have hc := cnt_pos hW14 c
      match m, hm with
      | 0, hm => omega
      | m + 1, hm =>
        obtain ⟨f, hf, hb, htop, h99⟩ := top_ok hv hW c
        have ht : topY B p W (B.2 6 p) < 100 := by omega
        have hsp := cnt_split (W := W) (r := rowS B p W) (fun i hi => rowS_sub hi)
        have hr14 : rowS B p W < 2 ^ 14 := Nat.lt_of_lt_of_le (rowS_lt W) (Nat.pow_le_pow_right (by decide) (by omega))
        have hrc := cnt_pos hr14 (rowS_ne hv hW c)
        have e100 : t100 (topY B p W (B.2 6 p)) = topY B p W (B.2 6 p) := by unfold t100; rw [if_pos ht]
        have hN' : ∀ j, nmB B p 8 (allow B p) (n + j) = if j < cnt (rowS B p W) then rowName B p (rowS B p W) j else nmB B p m (andN W (rowS B p W)) (j - cnt (rowS B p W)) := fun j => by
          rw [hN j, nmB, if_neg c]
        refine lX4_na48 hv h hp (by omega) ?_ _ 0 (Nat.zero_add _)
        rw [e100]
        refine lX4_na112 hv h hp (by omega) ht ?_ _ 0 (Nat.zero_add _)
        refine lX4_na175 hv hp (rowS_lt W) (N := nmB B p 8 (allow B p)) (n0 := n) (by omega) (fun j hj => by rw [hN' j, if_pos hj]) (fun R h hR => ?_) (cnt (rowS B p W)) _ n rfl (rowS_lt W) rfl (Nat.le_refl _) (fun i hi => hi) (fun g f _ h1 h2 _ => by rw [h1] at h2; cases h2) R h hR
        refine lX4_na37 hv hp m _ _ (andN_lt hW) (by omega) (by omega) (fun j => ?_) R h hR
        have := hN' (cnt (rowS B p W) + j)
        rw [if_neg (by omega), Nat.add_sub_cancel_left, ← Nat.add_assoc] at this
        exact this
theorem lX4_na4 (hv : InvB B) (h : RM I R B) (hp : p < 14) : ∀ n k, k + n = B.2 6 p → qX4_nameAll_4 (pNm B p) (nI p) (nI (bitsF (may B p) k)) (nI k) I R
  | 0, k, e => by
    have hnf := hv.nf p
    have e : k = B.2 6 p := by omega
    subst e
    refine kX4_nameAll_4 ⟨vp_in_nI hp (by decide), fun _ => ?_, fun c => ?_⟩
    · have hal : allow B p < 2 ^ B.2 6 p := bitsF_lt _ _
      have hc : cnt (allow B p) ≤ 8 := by
        rw [← cnt_n hal (by omega)]
        exact Nat.le_trans (fb_ct_le _ _) hnf
      exact lX4_na37 hv hp 8 (allow B p) 0 hal hc (by omega) (fun j => by rw [Nat.zero_add]) R h (fun j hj => absurd hj (Nat.not_lt_zero j))
    · rw [nI_clamp (by omega), h.r6, nI_leI (by omega) (by omega)] at c
      omega
  | n + 1, k, e => by
    have hnf := hv.nf p
    have ih := lX4_na4 hv h hp n (k + 1) (by omega)
    rw [← nI_1, bitsF] at ih
    refine kX4_nameAll_4 ⟨vp_in_nI hp (by decide), fun c => ?_, fun _ => ⟨_, sX4_may h hv hp (f := k) (by omega), fun rc hrc => ⟨fun c => ?_, fun c x2 e2 => ?_⟩⟩⟩
    · rw [nI_clamp (by omega), h.r6, nI_leI (by omega) (by omega)] at c
      omega
    · rw [hrc, ite10] at c
      rw [c, if_neg (by decide), Nat.or_zero] at ih
      exact ih
    · rw [hrc, ite10] at c
      rw [if_pos (of_not_false c)] at ih
      rw [e2, tb_shl _ (by omega), tb_or]
      exact ih
end
def nameI (a i : Int32) (B : Bk) : Int32 := if isIn a (B.1 11) && goodB B a.toNatClampNeg then (if 0 ≤ i then nmB B a.toNatClampNeg 8 (allow B a.toNatClampNeg) i.toNatClampNeg else -1) else -1
theorem ag_name : Ag_name JJ := fun {k c s u v} a i hk hj => query hj (fun P => qX3_name P a i u.1 u.2.1 u.2.2.1 u.2.2.2.1 u.2.2.2.2.1 u.2.2.2.2.2.1 u.2.2.2.2.2.2.1 u.2.2.2.2.2.2.2.1 u.2.2.2.2.2.2.2.2.1 u.2.2.2.2.2.2.2.2.2.1 u.2.2.2.2.2.2.2.2.2.2) (fun P => qX4_name P a i v.1 v.2) (nameI a i) (fun B lt hv hg hc => by
    have hn := hv.np
    refine ⟨by rw [RCc.i4 hc, RCc.vn hc], by rw [RCc.vn hc]; exact hn, fun e => ?_, fun p hp ep => ?_⟩
    · show (-1 : Int32) = nameI a i B
      unfold nameI
      rw [isIn_no (by omega) (by rw [RCc.i4 hc] at e; exact e)]; rfl
    · rw [RCc.vn hc] at hp
      subst ep
      have hin : isIn (nI p) (B.1 11) = true := by rw [isIn_nI (by omega)]; exact decide_eq_true hp
      have hpic := RCc.pic hc hp
      have hs := seenB_lt hv p
      unfold nameI
      rw [hin, nI_clamp (by omega), Bool.true_and, hpic.2.2.1, nI_z (by omega), seenB_0]
      refine ⟨fun e => ?_, fun e => ⟨fun e2 => ?_, fun e2 => ?_⟩⟩
      · show (-1 : Int32) = _
        rw [e]; rfl
      · obtain ⟨j, hj9, rfl⟩ := nI_get0 e2
        rw [if_pos (of_not_false e), if_pos e2, nI_clamp hj9]
        have hsp : u.2.1 5 0 = nI (B.1 12) := RCc.span hc
        rw [hsp]
        exact ⟨_, sX2_nameAt hv hpic hj9, fun rc hrc => hrc⟩
      · show (-1 : Int32) = _
        rw [if_pos (of_not_false e), if_neg e2]) (fun B hv hg hm => by
    have hn := hv.np
    have h9 := hm.upI (j := 19) (by decide) 0
    refine ⟨_, sX4_isPicture h9 hv a, fun rc hrc => ⟨fun e => ?_, fun e => ?_⟩⟩
    · rw [hrc, b2i_0] at e
      unfold nameI
      rw [e]
      exact ⟨rfl, h9⟩
    · rw [hrc, b2i_n0] at e
      obtain ⟨p, hp, rfl⟩ := isIn_get e
      unfold nameI
      rw [e, nI_clamp (by omega), Bool.true_and]
      refine ⟨_, sX4_isGood h9 hv (by omega), fun rc2 I2 R2 hq => ?_⟩
      obtain ⟨e1, e2, e3, e4⟩ := hq
      subst e2
      rw [e1, b2i_n0, b2i_0]
      refine ⟨fun g => ⟨_, lX4_na4 hv e3 (by omega) _ 0 (Nat.zero_add _), fun rc3 I3 R3 hq3 => ?_⟩, fun g => ?_⟩
      · obtain ⟨n, en, hn8, hm3, hlo, hhi⟩ := hq3
        rw [en, if_pos g]
        refine ⟨_, sX4_inN (a := i) (n := n) (by omega), fun rc4 hrc4 => ⟨fun g4 => ⟨?_, hm3⟩, fun g4 => ?_⟩⟩
        · rw [hrc4, b2i_0] at g4
          by_cases g5 : 0 ≤ i
          · obtain ⟨j, hj9, rfl⟩ := nI_get0 g5
            rw [isIn_nI hj9, decide_eq_false_iff_not] at g4
            rw [if_pos g5, nI_clamp hj9, hhi j (by omega)]
          · rw [if_neg g5]
        · rw [hrc4, b2i_n0] at g4
          obtain ⟨j, hj9, rfl⟩ := isIn_get g4
          rw [nI_clamp (by omega), if_pos (nI_pos' (by omega))]
          exact ⟨vp_in_nI (by omega) (by decide), hlo j hj9, hm3⟩
      · rw [g]
        exact ⟨rfl, e3⟩)
