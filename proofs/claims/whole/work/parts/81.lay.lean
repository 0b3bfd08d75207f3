/-! the next page: the class -/
def bet (sz : Nat → Nat) (T U : Nat) : Prop := pts sz U 14 < pts sz T 14 ∨ (pts sz T 14 = pts sz U 14 ∧ T < U)
def feas (sz : Nat → Nat) (W U : Nat) : Prop := fewN sz (W ^^^ U) + 1 = fewN sz W
def inSc (sz : Nat → Nat) (W T k U : Nat) : Prop := subN U W ∧ (∀ i, i < k → U.testBit i = T.testBit i) ∧ pts sz U 14 ≤ 12
def Cand (sz : Nat → Nat) (W T : Nat) : Prop := subN T W ∧ (∃ j, isLow W j ∧ T.testBit j = true) ∧ pts sz T 14 ≤ 12 ∧ feas sz W T
def Best (sz : Nat → Nat) (W T : Nat) : Prop := Cand sz W T ∧ ∀ U, Cand sz W U → ¬ bet sz U T
noncomputable def nextP (sz : Nat → Nat) (W : Nat) : Nat := if W = 0 then 0 else Classical.epsilon (Best sz W)
theorem Best_uniq {sz : Nat → Nat} {W T U : Nat} (h1 : Best sz W T) (h2 : Best sz W U) : T = U := by
  have a := h1.2 U h2.1
  have b := h2.2 T h1.1
  unfold bet at a b
  omega
theorem nextP_0 (sz : Nat → Nat) : nextP sz 0 = 0 := if_pos rfl
theorem nextP_is {sz : Nat → Nat} {W T : Nat} (h0 : W ≠ 0) (h : Best sz W T) : nextP sz W = T := by
  unfold nextP
  rw [if_neg h0]
  exact Best_uniq (Classical.epsilon_spec ⟨T, h⟩) h
theorem Cand_ex {sz : Nat → Nat} (hsz : ∀ p, sz p ≤ 12) {W : Nat} (hW : W < 2 ^ 14) (h0 : W ≠ 0) : ∃ T, Cand sz W T := by
  obtain ⟨j, -, hj⟩ := low_ex hW h0
  obtain ⟨T, h1, h2, h3, h4⟩ := few_page hsz hW hj.1
  exact ⟨T, h2, ⟨j, hj, h1⟩, h3, by unfold feas; omega⟩
theorem add_bit {T i : Nat} (h : T.testBit i = false) : (T ||| 2 ^ i) ^^^ 2 ^ i = T ∧ (T ||| 2 ^ i).testBit i = true := by
  have hb : (T ||| 2 ^ i).testBit i = true := by rw [Nat.testBit_or, Nat.testBit_two_pow_self, Bool.or_true]
  refine ⟨?_, hb⟩
  apply Nat.eq_of_testBit_eq
  intro x
  rw [xtb (sub_p2 hb), Nat.testBit_or, Nat.testBit_two_pow]
  by_cases e : i = x
  · subst e; rw [h]; simp
  · simp [e]
theorem pts_bit {sz : Nat → Nat} {T i : Nat} (h : T.testBit i = false) (hi : i < 14) : pts sz (T ||| 2 ^ i) 14 = pts sz T 14 + sz i := by
  obtain ⟨e, hb⟩ := add_bit h
  have := pts_add (sz := sz) (sub_p2 hb) 14
  rw [e, pts_p14 sz hi] at this
  omega
/-- what a search for a fuller page leaves -/
def FP (sz : Nat → Nat) (W T k f0 : Nat) (I0 : Nat → Int32) (R0 : Nat → Nat → Int32) (q0 n0 : Nat) : (Nat → Int32) → (Nat → Nat → Int32) → Nat → Nat → Prop := fun I R q n => R = R0 ∧ q = q0 ∧ n = n0 ∧ (∀ j, j ≠ 8 → j ≠ 9 → I j = I0 j) ∧ ∃ f, I 8 = nI f ∧ I 9 = nI (pts sz f 14) ∧ f < 2 ^ 14 ∧ (f = f0 ∨ (inSc sz W T k f ∧ feas sz W f)) ∧ ¬ bet sz f0 f ∧ ∀ U, inSc sz W T k U → feas sz W U → ¬ bet sz U f
section
variable {B : Bk} {lt W : Nat} {ER : Nat → Nat → Int32} {q En : Nat}
theorem lX1_fp68 (hv : InvB B) (hW : W < 2 ^ lt) {d T k f0 : Nat} {I0 : Nat → Int32} (hP : PkS B lt I0 ER En) (h6 : I0 6 = nI W) (hT : subN T W) (hTk : T < 2 ^ k) (hpt : pts (B.2 5) T 14 ≤ 12)
    (hY : ∀ (T' k' f : Nat) (I : Nat → Int32), subN T' W → T' ≠ 0 → T' < 2 ^ k' → pts (B.2 5) T' 14 ≤ 12 → k < k' → k' ≤ B.1 11 → (∀ j, j ≠ 8 → j ≠ 9 → I j = I0 j) → I 8 = nI f → I 9 = nI (pts (B.2 5) f 14) → f < 2 ^ 14 → qX1_fillPage d (FP (B.2 5) W T' k' f I ER q En) (nI T') (nI (pts (B.2 5) T' 14)) (nI k') I ER q En) :
    ∀ m i, i + m = B.1 11 → k ≤ i → ∀ (I : Nat → Int32) (f : Nat), (∀ j, j ≠ 8 → j ≠ 9 → I j = I0 j) → I 8 = nI f → I 9 = nI (pts (B.2 5) f 14) → f < 2 ^ 14 → (f = f0 ∨ (inSc (B.2 5) W T k f ∧ feas (B.2 5) W f)) → ¬ bet (B.2 5) f0 f → (∀ U, inSc (B.2 5) W T k U → feas (B.2 5) W U → (U = T ∨ ∃ b, k ≤ b ∧ b < i ∧ U.testBit b = true) → ¬ bet (B.2 5) U f) → qX1_fillPage_68 (qX1_fillPage d) (FP (B.2 5) W T k f0 I0 ER q En) (nI T) (nI (pts (B.2 5) T 14)) (nI k) (nI i) I ER q En
  | 0, i, e, hki, I, f, hI, h8, h9, hf, hs, hb, hU => by
    have hn := hv.np
    have hl := hP.2.2.1
    have e1 : I 1 = nI (B.1 11) := by rw [hI 1 (by decide) (by decide)]; exact hP.1
    refine kX1_fillPage_68 ⟨fun _ => ⟨rfl, rfl, rfl, hI, f, h8, h9, hf, hs, hb, fun U hU1 hU2 => hU U hU1 hU2 ?_⟩, fun c => ?_⟩
    · by_cases g : ∃ b, k ≤ b ∧ b < i ∧ U.testBit b = true
      · exact Or.inr g
      · refine Or.inl (Nat.eq_of_testBit_eq (fun x => ?_))
        rcases Nat.lt_or_ge x k with z | z
        · exact hU1.2.1 x z
        · rw [Nat.testBit_lt_two_pow (Nat.lt_of_lt_of_le hTk (Nat.pow_le_pow_right (by decide) z))]
          cases hx : U.testBit x
          · rfl
          · have := tb_ltp (sub_lt hU1.1 hW) hx
            exact absurd ⟨x, z, by omega, hx⟩ g
    · rw [e1, nI_leI (by omega) (by omega)] at c
      omega
  | m + 1, i, e, hki, I, f, hI, h8, h9, hf, hs, hb, hU => by
    have hn := hv.np
    have hl := hP.2.2.1
    have hW14 : W < 2 ^ 14 := Nat.lt_of_lt_of_le hW (p2_14 (by omega))
    have e1 : I 1 = nI (B.1 11) := by rw [hI 1 (by decide) (by decide)]; exact hP.1
    have e6 : I 6 = nI W := by rw [hI 6 (by decide) (by decide)]; exact h6
    have hTi : T.testBit i = false := Nat.testBit_lt_two_pow (Nat.lt_of_lt_of_le hTk (Nat.pow_le_pow_right (by decide) hki))
    have hsz := hv.size i
    have hpb := pts_bit (sz := B.2 5) hTi (by omega)
    have skip : (∀ U, inSc (B.2 5) W T k U → U.testBit i = true → False) → qX1_fillPage_68 (qX1_fillPage d) (FP (B.2 5) W T k f0 I0 ER q En) (nI T) (nI (pts (B.2 5) T 14)) (nI k) (nI i + 1) I ER q En := fun hno => by
      rw [nI_1]
      refine lX1_fp68 hv hW hP h6 hT hTk hpt hY m (i + 1) (by omega) (by omega) I f hI h8 h9 hf hs hb (fun U hU1 hU2 hU3 => hU U hU1 hU2 ?_)
      rcases hU3 with g | ⟨b, g1, g2, g3⟩
      · exact Or.inl g
      · by_cases eb : b = i
        · subst eb; exact (hno U hU1 g3).elim
        · exact Or.inr ⟨b, g1, by omega, g3⟩
    refine kX1_fillPage_68 ⟨fun c => ?_, fun _ => ⟨fun c => skip (fun U hU1 hU2 => ?_), fun c => ⟨vp_in_nI (by omega) (by decide), ?_⟩⟩⟩
    · rw [e1, nI_leI (by omega) (by omega)] at c
      omega
    · rw [e6, tb_0 (by omega) (by omega)] at c
      rw [hU1.1 i hU2] at c
      cases c
    · rw [e6, tb_0 (by omega) (by omega)] at c
      have c := of_not_false c
      rw [nI_clamp (by omega), hP.2.1 i (by omega), nI_add, show (12 : Int32) = nI 12 from rfl, nI_ltI (by omega) (by omega), tb_shl _ (by omega), tb_or, ← hpb, nI_1]
      refine ⟨fun g => ?_, fun g => ⟨_, hY (T ||| 2 ^ i) (i + 1) f I (fun x hx => ?_) (fun ez => ?_) ?_ (by omega) (by omega) (by omega) hI h8 h9 hf, fun I2 R2 q2 n2 hq => ?_⟩⟩
      · have := skip (fun U hU1 hU2 => by
          have hsub : subN (T ||| 2 ^ i) U := fun x hx => by
            rw [Nat.testBit_or, Bool.or_eq_true] at hx
            rcases hx with hx | hx
            · rw [hU1.2.1 x (tb_ltp hTk hx)]; exact hx
            · exact sub_p2 hU2 x hx
          have a := pts_sub (sz := B.2 5) hsub 14
          have b := hU1.2.2
          omega)
        rw [nI_1] at this
        exact this
      · rw [Nat.testBit_or, Bool.or_eq_true] at hx
        rcases hx with hx | hx
        · exact hT x hx
        · exact sub_p2 c x hx
      · have z := (add_bit hTi).2
        rw [ez, Nat.zero_testBit] at z
        cases z
      · exact Nat.or_lt_two_pow (Nat.lt_of_lt_of_le hTk (Nat.pow_le_pow_right (by decide) (by omega))) (Nat.pow_lt_pow_right (by decide) (by omega))
      · obtain ⟨eR, eq, en, hI2, f2, g8, g9, gf, gs, gb, gU⟩ := hq
        rw [eR, eq, en]
        have sc : ∀ U, inSc (B.2 5) W (T ||| 2 ^ i) (i + 1) U → inSc (B.2 5) W T k U := fun U hU1 => ⟨hU1.1, fun x hx => by
          rw [hU1.2.1 x (by omega), Nat.testBit_or, Nat.testBit_two_pow, decide_eq_false (by omega), Bool.or_false], hU1.2.2⟩
        refine lX1_fp68 hv hW hP h6 hT hTk hpt hY m (i + 1) (by omega) (by omega) I2 f2 (fun j h1 h2 => (hI2 j h1 h2).trans (hI j h1 h2)) g8 g9 gf ?_ ?_ (fun U hU1 hU2 hU3 => ?_)
        · rcases gs with z | ⟨z1, z2⟩
          · rw [z]; exact hs
          · exact Or.inr ⟨sc f2 z1, z2⟩
        · unfold bet at hb gb ⊢
          omega
        · by_cases g : U = T ∨ ∃ b, k ≤ b ∧ b < i ∧ U.testBit b = true
          · have z := hU U hU1 hU2 g
            clear hU3 g
            unfold bet at z gb ⊢
            omega
          · refine gU U ⟨hU1.1, fun x hx => ?_, hU1.2.2⟩ hU2
            have hUi : U.testBit i = true := by
              rcases hU3 with z | ⟨b, z1, z2, z3⟩
              · exact absurd (Or.inl z) g
              · by_cases eb : b = i
                · rw [← eb]; exact z3
                · exact absurd (Or.inr ⟨b, z1, by omega, z3⟩) g
            rw [Nat.testBit_or, Nat.testBit_two_pow]
            by_cases ex : i = x
            · subst ex; rw [hUi]; simp
            · rw [decide_eq_false ex, Bool.or_false]
              rcases Nat.lt_or_ge x k with z | z
              · exact hU1.2.1 x z
              · rw [Nat.testBit_lt_two_pow (Nat.lt_of_lt_of_le hTk (Nat.pow_le_pow_right (by decide) z))]
                cases hx9 : U.testBit x
                · rfl
                · exact absurd (Or.inr ⟨x, z, by omega, hx9⟩) g
theorem sX1_fillPage (hv : InvB B) (hW : W < 2 ^ lt) : ∀ (d T k f0 : Nat) (I0 : Nat → Int32), B.1 11 < d + k → k ≤ B.1 11 → PkS B lt I0 ER En → I0 6 = nI W → I0 7 = nI (fewN (B.2 5) W - 1) → W ≠ 0 → subN T W → T ≠ 0 → T < 2 ^ k → pts (B.2 5) T 14 ≤ 12 → I0 8 = nI f0 → I0 9 = nI (pts (B.2 5) f0 14) → f0 < 2 ^ 14 → qX1_fillPage d (FP (B.2 5) W T k f0 I0 ER q En) (nI T) (nI (pts (B.2 5) T 14)) (nI k) I0 ER q En
  | 0, T, k, f0, I0, hd, hk, _, _, _, _, _, _, _, _, _, _, _ => by omega
  | d + 1, T, k, f0, I0, hd, hk, hP, h6, h7, hW0, hT, hT0, hTk, hpt, h8, h9, hf0 => by
    have hn := hv.np
    have hl := hP.2.2.1
    have hW14 : W < 2 ^ 14 := Nat.lt_of_lt_of_le hW (p2_14 (by omega))
    have hT14 := sub_lt hT hW14
    have hpf := pts_le B hv f0
    have hTT : inSc (B.2 5) W T k T := ⟨hT, fun _ _ => rfl, hpt⟩
    have loop : ∀ (I : Nat → Int32) (f : Nat), (∀ j, j ≠ 8 → j ≠ 9 → I j = I0 j) → I 8 = nI f → I 9 = nI (pts (B.2 5) f 14) → f < 2 ^ 14 → (f = f0 ∨ (inSc (B.2 5) W T k f ∧ feas (B.2 5) W f)) → ¬ bet (B.2 5) f0 f → (feas (B.2 5) W T → ¬ bet (B.2 5) T f) → qX1_fillPage_68 (qX1_fillPage d) (FP (B.2 5) W T k f0 I0 ER q En) (nI T) (nI (pts (B.2 5) T 14)) (nI k) (nI k) I ER q En := fun I f hI g8 g9 gf gs gb gT => by
      refine lX1_fp68 hv hW hP h6 hT hTk hpt (fun T' k' f I a1 a0 a2 a3 a4 a5 a6 a7 a8 a9 => ?_) _ k (Nat.add_sub_cancel' hk) (Nat.le_refl _) I f hI g8 g9 gf gs gb (fun U hU1 hU2 hU3 => ?_)
      · refine sX1_fillPage hv hW d T' k' f I (by omega) a5 ?_ ?_ ?_ hW0 a1 a0 a2 a3 a7 a8 a9
        · obtain ⟨p1, p2, p3, p4, p5, p6⟩ := hP
          exact ⟨by rw [a6 1 (by decide) (by decide)]; exact p1, p2, p3, by rw [a6 5 (by decide) (by decide)]; exact p4, p5, p6⟩
        · rw [a6 6 (by decide) (by decide)]; exact h6
        · rw [a6 7 (by decide) (by decide)]; exact h7
      · rcases hU3 with z | ⟨b, z1, z2, z3⟩
        · rw [z] at hU2 ⊢; exact gT hU2
        · omega
    have keep : ¬ bet (B.2 5) T f0 → qX1_fillPage_29 (qX1_fillPage d) (FP (B.2 5) W T k f0 I0 ER q En) (nI T) (nI (pts (B.2 5) T 14)) (nI k) 0 I0 ER q En := fun g => kX1_fillPage_29 ⟨fun _ => loop I0 f0 (fun _ _ _ => rfl) h8 h9 hf0 (Or.inl rfl) (by unfold bet; omega) (fun _ => g), fun c => absurd rfl c⟩
    have try1 : bet (B.2 5) T f0 → qX1_fillPage_29 (qX1_fillPage d) (FP (B.2 5) W T k f0 I0 ER q En) (nI T) (nI (pts (B.2 5) T 14)) (nI k) 1 I0 ER q En := fun g => by
      refine kX1_fillPage_29 ⟨fun c => absurd c (by decide), fun _ => ?_⟩
      rw [h6, tb_andN, ← xor_andN hT]
      refine ⟨_, sX1_pagesForA hv (sub_lt (sub_x hT) hW) hP, fun rc I1 R1 q1 n1 hq => ?_⟩
      obtain ⟨e1, e2, e3, e4, e5⟩ := hq
      subst e2 e3 e4 e5
      have f1 := few_le hv.size hW14
      have f2 := few_le hv.size (sub_lt (sub_x hT) hW14)
      have f3 := few_ge hv.size hW14 hT0 hT hpt
      have f4 := few_pos hv.size hW14 hW0
      rw [e1, h7, nI_ltI (by omega) (by omega)]
      refine ⟨fun g2 => loop I1 f0 (fun _ _ _ => rfl) h8 h9 hf0 (Or.inl rfl) (by unfold bet; omega) (fun g3 => ?_), fun g2 => loop _ T (fun j g3 g4 => by rw [vu_ne g4, vu_ne g3]) ?_ vu_eq hT14 (Or.inr ⟨hTT, ?_⟩) ?_ (fun _ => by unfold bet; omega)⟩
      · unfold feas at g3
        omega
      · rw [vu_ne (by decide), vu_eq]
      · unfold feas
        omega
      · unfold bet at g ⊢
        omega
    unfold qX1_fillPage
    rw [h9, h8, nI_ltI (by omega) (by omega), nI_eq (by omega) (by omega), nI_leI (by omega) (by omega)]
    refine ⟨fun g => try1 (Or.inl g), fun g => ⟨fun g2 => keep (by unfold bet; omega), fun g2 => ⟨fun g3 => keep (by unfold bet; omega), fun g3 => try1 (Or.inr ⟨g2, by omega⟩)⟩⟩⟩
end
