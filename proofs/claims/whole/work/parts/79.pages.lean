/-! the class: how few pages -/
def PkS (B : Bk) (lt : Nat) (EI : Nat → Int32) (ER : Nat → Nat → Int32) (En : Nat) : Prop := EI 1 = nI (B.1 11) ∧ (∀ p, p < B.1 11 → ER 0 p = nI (B.2 5 p)) ∧ lt ≤ B.1 11 ∧ EI 5 = nI lt ∧ En = 2 ^ lt ∧ ∀ S, S < 2 ^ lt → ∃ v, ER 4 S = nI v ∧ PkL (B.2 5) S v
theorem am16 : ∀ v, v < 256 → nI v &&& (-16 : Int32) = nI (v / 16 * 16) := by decide +kernel
theorem sX1_withOneMore {v s : Nat} (hv : v < 256) (hs : s ≤ 12) : qX1_withOneMore (fun r => r = nI (wom v s)) (nI v) (nI s) := by
  unfold qX1_withOneMore
  rw [show (15 : Int32) = nI (2 ^ 4 - 1) from rfl, fa_mask, nI_add, show (12 : Int32) = nI 12 from rfl, nI_ltI (by omega) (by omega)]
  refine ⟨fun c => kX1_withOneMore_16 ⟨fun _ => ?_, fun c => absurd rfl c⟩, fun c => kX1_withOneMore_16 ⟨fun c => absurd c (by decide), fun _ => ?_⟩⟩
  · show (nI v &&& (-16)) + 16 + nI s = nI (wom v s)
    rw [am16 v hv, show (16 : Int32) = nI 16 from rfl, nI_add, nI_add]
    unfold wom
    rw [if_neg (by omega)]
  · show nI v + nI s = nI (wom v s)
    rw [nI_add]
    unfold wom
    rw [if_pos (by omega)]
theorem wom_lt {v s : Nat} (hv : v < 256) (hs : s ≤ 12) : wom v s < 1000 := by
  unfold wom
  split <;> omega
theorem top_bit {p S : Nat} (h : 2 ^ p ≤ S) (h2 : S < 2 ^ (p + 1)) : S.testBit p = true := by
  obtain ⟨i, hi, hb⟩ := Nat.exists_ge_and_testBit_of_ge_two_pow h
  have := tb_ltp h2 hb
  rw [show p = i by omega]
  exact hb
theorem p2_14 {k : Nat} (h : k ≤ 14) : 2 ^ k ≤ 2 ^ 14 := Nat.pow_le_pow_right (by decide) h
section
variable {B : Bk} {p : Nat} {EI : Nat → Int32} {q : Nat} {mc ms cs ss : Nat}
theorem lX1_learn37 (hv : InvB B) (hp : p < B.1 11) {S : Nat} {ER : Nat → Nat → Int32} (hS : 2 ^ p ≤ S) (hS2 : S < 2 ^ (p + 1)) (h0 : ∀ j, j < B.1 11 → ER 0 j = nI (B.2 5 j)) (hR : ∀ U, U < S → ∃ v, ER 4 U = nI v ∧ PkL (B.2 5) U v) {post : (Nat → Int32) → (Nat → Nat → Int32) → Nat → Nat → Prop} (h1 : ∀ w, PkL (B.2 5) S w → qX1_learnSetsWith_20 mc ms post (nI p) (nI S + 1) EI (va_up ER 4 (upd (ER 4) S (nI w))) q (2 ^ (p + 1)) cs ss) :
    ∀ m k, k + m = p + 1 → ∀ w, w ≤ 1000 → (w = 1000 ∨ ∃ j v, j < k ∧ S.testBit j = true ∧ PkL (B.2 5) (S ^^^ 2 ^ j) v ∧ w = wom v (B.2 5 j)) → (∀ j v, j < k → S.testBit j = true → PkL (B.2 5) (S ^^^ 2 ^ j) v → w ≤ wom v (B.2 5 j)) → qX1_learnSetsWith_37 mc ms post (nI p) (nI S) (nI w) (nI k) EI ER q (2 ^ (p + 1)) cs ss
  | 0, k, e, w, hw, hw1, hw2 => by
    have hn := hv.np
    have hp14 := p2_14 (k := p + 1) (by omega)
    have e : k = p + 1 := by omega
    subst e
    have sub : ∀ j, S.testBit j = true → ∃ v, ER 4 (S ^^^ 2 ^ j) = nI v ∧ PkL (B.2 5) (S ^^^ 2 ^ j) v := fun j hj => by
      have := xor_sub hj
      have := Nat.two_pow_pos j
      exact hR _ (by omega)
    refine kX1_learnSetsWith_37 ⟨fun _ => ?_, fun c => ?_⟩
    · rw [nI_clamp (by omega)]
      refine ⟨vp_in_nI hS2 (by omega), h1 w ?_⟩
      have hb := top_bit hS hS2
      have h0' : S ≠ 0 := fun e => by rw [e, Nat.zero_testBit] at hb; cases hb
      refine PkL_min hv.size (by omega) h0' (fun x hx => hv.size1 x (by have := tb_ltp hS2 hx; omega)) ?_ (fun x v hx hv9 => hw2 x v (tb_ltp hS2 hx) hx hv9) (fun x hx => by obtain ⟨v, -, h9⟩ := sub x hx; exact ⟨v, h9⟩)
      rcases hw1 with e | ⟨j, v, h2, h3, h4, h5⟩
      · exfalso
        obtain ⟨v, -, h9⟩ := sub p hb
        have a1 := hw2 p v (by omega) hb h9
        have a2 := wom_lt (PkL_few h9).2 (hv.size p)
        omega
      · exact ⟨j, v, h3, h4, h5⟩
    · rw [nI_ltI (by omega) (by omega)] at c
      omega
  | m + 1, k, e, w, hw, hw1, hw2 => by
    have hn := hv.np
    have hp14 := p2_14 (k := p + 1) (by omega)
    refine kX1_learnSetsWith_37 ⟨fun c => ?_, fun _ => ⟨fun c => ?_, fun c => ?_⟩⟩
    · rw [nI_ltI (by omega) (by omega)] at c
      omega
    · rw [tb_0 (by omega) (by omega)] at c
      rw [nI_1]
      refine lX1_learn37 hv hp hS hS2 h0 hR h1 m (k + 1) (by omega) w hw ?_ (fun j v hj hb h9 => ?_)
      · rcases hw1 with e | ⟨j, v, h2, h3⟩
        · exact Or.inl e
        · exact Or.inr ⟨j, v, by omega, h3⟩
      · by_cases ej : j = k
        · rw [ej, c] at hb; cases hb
        · exact hw2 j v (by omega) hb h9
    · rw [tb_0 (by omega) (by omega)] at c
      have c := of_not_false c
      obtain ⟨x1, x2⟩ := xor_sub c
      have hk0 := Nat.two_pow_pos k
      obtain ⟨v, ev, hv9⟩ := hR (S ^^^ 2 ^ k) (by omega)
      have hv256 := (PkL_few hv9).2
      have hsz := hv.size k
      rw [tb_shl _ (by omega), pk_sub x2, ← x1, nI_clamp (by omega), nI_clamp (by omega), ev, h0 k (by omega)]
      refine ⟨vp_in_nI (by omega) (by omega), vp_in_nI (by omega) (by decide), _, sX1_withOneMore hv256 hsz, fun rc hrc v7 e7 => ?_⟩
      have hwl := wom_lt hv256 hsz
      have e8 : v7 = nI (if wom v (B.2 5 k) < w then wom v (B.2 5 k) else w) := by
        rw [e7, hrc]
        by_cases g : wom v (B.2 5 k) < w
        · rw [if_pos g, if_pos (nI_lt g (by omega))]
        · rw [if_neg g, if_neg (nI_nlt (by omega) (by omega))]
      rw [e8, nI_1]
      refine lX1_learn37 hv hp hS hS2 h0 hR h1 m (k + 1) (by omega) _ (by split <;> omega) ?_ (fun j v2 hj hb h9 => ?_)
      · by_cases g : wom v (B.2 5 k) < w
        · rw [if_pos g]
          exact Or.inr ⟨k, v, by omega, c, hv9, rfl⟩
        · rw [if_neg g]
          rcases hw1 with e | ⟨j, v, h2, h3⟩
          · exact Or.inl e
          · exact Or.inr ⟨j, v, by omega, h3⟩
      · by_cases ej : j = k
        · subst ej
          rw [PkL_uniq h9 hv9]
          split <;> omega
        · have := hw2 j v2 (by omega) hb h9
          split <;> omega
theorem lX1_learn20 (hv : InvB B) (hp : p < B.1 11) {ER0 : Nat → Nat → Int32} (h0 : ∀ j, j < B.1 11 → ER0 0 j = nI (B.2 5 j)) {post : (Nat → Int32) → (Nat → Nat → Int32) → Nat → Nat → Prop} (h1 : ∀ ER' : Nat → Nat → Int32, (∀ j, j ≠ 4 → ER' j = ER0 j) → (∀ U, U < 2 ^ (p + 1) → ∃ v, ER' 4 U = nI v ∧ PkL (B.2 5) U v) → post (va_up EI 5 (nI p + 1)) ER' q (2 ^ (p + 1))) :
    ∀ m S, S + m = 2 ^ (p + 1) → 2 ^ p ≤ S → ∀ ER : Nat → Nat → Int32, (∀ j, j ≠ 4 → ER j = ER0 j) → (∀ U, U < S → ∃ v, ER 4 U = nI v ∧ PkL (B.2 5) U v) → qX1_learnSetsWith_20 mc ms post (nI p) (nI S) EI ER q (2 ^ (p + 1)) cs ss
  | 0, S, e, hS, ER, hE, hR => by
    have hn := hv.np
    have hp14 := p2_14 (k := p + 1) (by omega)
    have e : S = 2 ^ (p + 1) := by omega
    subst e
    refine kX1_learnSetsWith_20 ⟨fun _ => h1 ER hE hR, fun c => ?_⟩
    rw [nI_leI (by omega) (by omega)] at c
    omega
  | m + 1, S, e, hS, ER, hE, hR => by
    have hn := hv.np
    have hp14 := p2_14 (k := p + 1) (by omega)
    refine kX1_learnSetsWith_20 ⟨fun c => ?_, fun _ => ?_⟩
    · rw [nI_leI (by omega) (by omega)] at c
      omega
    · refine lX1_learn37 hv hp hS (by omega) (fun j hj => by rw [hE 0 (by decide)]; exact h0 j hj) hR (fun w hw => ?_) (p + 1) 0 (Nat.zero_add _) 1000 (Nat.le_refl _) (Or.inl rfl) (fun j v hj => absurd hj (Nat.not_lt_zero j))
      rw [nI_1]
      refine lX1_learn20 hv hp h0 h1 m (S + 1) (by omega) (by omega) _ (fun j hj => by rw [vu_ne hj]; exact hE j hj) (fun U hU => ?_)
      rw [vu_eq]
      by_cases eU : U = S
      · subst eU; exact ⟨w, by rw [pk_us], hw⟩
      · rw [pk_un eU]; exact hR U (by omega)
theorem sX1_learn (hv : InvB B) (hp : p < B.1 11) {ER : Nat → Nat → Int32} {En : Nat} (h : PkS B p EI ER En) : qX1_learnSetsWith 1 (2 ^ (p + 1)) (fun I' R' _ n' => PkS B (p + 1) I' R' n' ∧ (∀ j, j ≠ 5 → I' j = EI j) ∧ ∀ j, j ≠ 4 → R' j = ER j) (nI p) EI ER q En := by
  obtain ⟨h1, h2, h3, h4, h5, h6⟩ := h
  have hn := hv.np
  have hp14 := p2_14 (k := p + 1) (by omega)
  have hps : 2 ^ (p + 1) = 2 ^ p * 2 := Nat.pow_succ 2 p
  have hp0 := Nat.two_pow_pos p
  subst h5
  intro x2 e2
  rw [tb_shl _ (by omega)] at e2
  refine ⟨2 ^ (p + 1), ?_, ⟨by omega, by omega⟩, ⟨by omega, by omega⟩, fun aq => ?_⟩
  · rw [e2, show (2 : Int32) = nI 2 from rfl, pk_mul, hps]
  · rw [e2]
    refine lX1_learn20 hv hp (ER0 := ER) h2 (fun ER' hE hR => ⟨⟨h1, fun j hj => ?_, hp, ?_, rfl, hR⟩, fun j hj => vu_ne hj, hE⟩) (2 ^ p) (2 ^ p) (by omega) (Nat.le_refl _) _ (fun j hj => vu_ne hj) (fun U hU => ?_)
    · rw [vu_eq, pk_cpy_in (Nat.zero_le _) (by omega), Nat.zero_add, Nat.sub_zero]
      exact h6 U hU
    · rw [hE 0 (by decide)]
      exact h2 j hj
    · rw [vu_eq, nI_1]
theorem sX1_pF30 (hv : InvB B) {S lt : Nat} {ER : Nat → Nat → Int32} {En : Nat} (hS : S < 2 ^ lt) (h : PkS B lt EI ER En) : ¬ nI S < 0 ∧ ¬ nI En ≤ nI S ∧ vp_in (nI S) En ∧ (ER 4 (nI S).toNatClampNeg) >>> ((4 : Int32) &&& 31) = nI (fewN (B.2 5) S) := by
  obtain ⟨h1, h2, h3, h4, h5, h6⟩ := h
  have hn := hv.np
  have hp14 := p2_14 (k := lt) (by omega)
  subst h5
  obtain ⟨v, ev, hv9⟩ := h6 S hS
  obtain ⟨e1, e2⟩ := PkL_few hv9
  refine ⟨nI_pos (by omega), ?_, vp_in_nI hS (by omega), ?_⟩
  · rw [nI_leI (by omega) (by omega)]
    omega
  · rw [nI_clamp (by omega), ev, e1]
    exact tb_shr (k := 4) (by omega) (by decide)
/-- how far must be learnt -/
theorem pF_ex (hv : InvB B) {S : Nat} (hS : S < 2 ^ B.1 11) : ∀ d k, k + d = B.1 11 → ∃ lt, k ≤ lt ∧ lt ≤ B.1 11 ∧ S < 2 ^ lt ∧ ∀ (mc ms cs ss : Nat) (EI : Nat → Int32) (ER : Nat → Nat → Int32) (q En : Nat) (post : Int32 → (Nat → Int32) → (Nat → Nat → Int32) → Nat → Nat → Prop), cs + (lt - k) ≤ mc → ss + (2 ^ (lt + 1) - 2 ^ (k + 1)) ≤ ms → PkS B k EI ER En → (∀ (I' : Nat → Int32) (R' : Nat → Nat → Int32) (q' n' : Nat), PkS B lt I' R' n' → (∀ j, j ≠ 5 → I' j = EI j) → (∀ j, j ≠ 4 → R' j = ER j) → post (nI (fewN (B.2 5) S)) I' R' q' n') → qX1_pagesFor_5 mc ms post (nI S) (nI k) EI ER q En cs ss
  | d, k, e => by
    have hn := hv.np
    have hS14 : S < 2 ^ 14 := Nat.lt_of_lt_of_le hS (p2_14 hn)
    by_cases g : S < 2 ^ k
    · refine ⟨k, Nat.le_refl _, by omega, g, fun mc ms cs ss EI ER q En post _ _ hP hpost => ?_⟩
      obtain ⟨a1, a2, a3, a4⟩ := sX1_pF30 hv g hP
      have fin : qX1_pagesFor_30 mc ms post (nI S) EI ER q En cs ss := kX1_pagesFor_30 ⟨fun c => absurd c a1, fun _ => ⟨fun c => absurd c a2, fun _ => ⟨a3, by rw [a4]; exact hpost EI ER q En hP (fun _ _ => rfl) (fun _ _ => rfl)⟩⟩⟩
      refine kX1_pagesFor_5 ⟨fun _ => fin, fun _ => ⟨fun _ => fin, fun c => ?_⟩⟩
      rw [tb_shr (by omega) (by omega), Nat.div_eq_of_lt g] at c
      exact absurd (by decide) c
    · match d, e with
      | 0, e =>
        have e : k = B.1 11 := by omega
        subst e
        exact absurd hS g
      | d + 1, e =>
        obtain ⟨lt, l1, l2, l3, l4⟩ := pF_ex hv hS d (k + 1) (by omega)
        have m1 : 2 ^ (k + 1 + 1) = 2 ^ (k + 1) * 2 := Nat.pow_succ 2 (k + 1)
        have m2 : 2 ^ (k + 1 + 1) ≤ 2 ^ (lt + 1) := Nat.pow_le_pow_right (by decide) (by omega)
        refine ⟨lt, by omega, l2, l3, fun mc ms cs ss EI ER q En post h1 h2 hP hpost => ?_⟩
        refine kX1_pagesFor_5 ⟨fun c => ?_, fun _ => ⟨fun c => ?_, fun _ => ⟨1, 2 ^ (k + 1), ⟨by omega, by omega⟩, _, sX1_learn hv (by omega) hP, fun I2 R2 q2 n2 hq => ?_⟩⟩⟩
        · rw [hP.1, nI_leI (by omega) (by omega)] at c
          omega
        · exfalso
          have hq : 0 < S / 2 ^ k := Nat.div_pos (by omega) (Nat.two_pow_pos k)
          have hle : S / 2 ^ k ≤ S := Nat.div_le_self _ _
          rw [tb_shr (by omega) (by omega), show (0 : Int32) = nI 0 from rfl, nI_leI (by omega) (by omega)] at c
          omega
        · obtain ⟨q1, q2, q3⟩ := hq
          rw [nI_1]
          exact l4 mc ms (cs + 1) (ss + 2 ^ (k + 1)) I2 R2 _ _ post (by omega) (by omega) q1 (fun I' R' q' n' p1 p2 p3 => hpost I' R' q' n' p1 (fun j hj => (p2 j hj).trans (q2 j hj)) (fun j hj => (p3 j hj).trans (q3 j hj)))
theorem sX1_pagesFor (hv : InvB B) {S lt0 : Nat} (hS : S < 2 ^ B.1 11) (hl : lt0 ≤ B.1 11) : ∃ lt, lt0 ≤ lt ∧ lt ≤ B.1 11 ∧ S < 2 ^ lt ∧ ∀ (EI : Nat → Int32) (ER : Nat → Nat → Int32) (q En : Nat), PkS B lt0 EI ER En → qX1_pagesFor (lt - lt0) (2 ^ (lt + 1) - 2 ^ (lt0 + 1)) (fun r I' R' _ n' => r = nI (fewN (B.2 5) S) ∧ PkS B lt I' R' n' ∧ (∀ j, j ≠ 5 → I' j = EI j) ∧ ∀ j, j ≠ 4 → R' j = ER j) (nI S) EI ER q En := by
  obtain ⟨lt, l1, l2, l3, l4⟩ := pF_ex hv hS (B.1 11 - lt0) lt0 (by omega)
  refine ⟨lt, l1, l2, l3, fun EI ER q En hP x2 e2 => ?_⟩
  rw [hP.2.2.2.1] at e2
  rw [e2]
  exact l4 _ _ 0 0 EI ER q En _ (by omega) (by omega) hP (fun I' R' q' n' p1 p2 p3 => ⟨rfl, p1, p2, p3⟩)
theorem sX1_pagesForA (hv : InvB B) {S lt : Nat} {ER : Nat → Nat → Int32} {En : Nat} (hS : S < 2 ^ lt) (h : PkS B lt EI ER En) : qX1_pagesForA (fun r I' R' q' n' => r = nI (fewN (B.2 5) S) ∧ I' = EI ∧ R' = ER ∧ q' = q ∧ n' = En) (nI S) EI ER q En := by
  have hn := hv.np
  have hl := h.2.2.1
  have hS14 : S < 2 ^ 14 := Nat.lt_of_lt_of_le hS (p2_14 (by omega))
  obtain ⟨a1, a2, a3, a4⟩ := sX1_pF30 hv hS h
  intro x2 e2
  rw [h.2.2.2.1] at e2
  rw [e2]
  have fin : qX1_pagesForA_30 (fun r I' R' q' n' => r = nI (fewN (B.2 5) S) ∧ I' = EI ∧ R' = ER ∧ q' = q ∧ n' = En) (nI S) EI ER q En := kX1_pagesForA_30 ⟨fun c => absurd c a1, fun _ => ⟨fun c => absurd c a2, fun _ => ⟨a3, a4, rfl, rfl, rfl, rfl⟩⟩⟩
  refine kX1_pagesForA_5 ⟨fun _ => fin, fun _ => ⟨fun _ => fin, fun c => ?_⟩⟩
  rw [tb_shr (by omega) (by omega), Nat.div_eq_of_lt hS] at c
  exact absurd (by decide) c
end
