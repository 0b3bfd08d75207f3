/-! the reference: layAll; lay -/
def pLa (B : Bk) (M : Nat) (I0 : Nat → Int32) : Int32 → (Nat → Int32) → (Nat → Nat → Int32) → Prop := fun r I R => r = nI (fewN (B.2 5) M) ∧ I = I0 ∧ RM I0 R B ∧ ∀ k, k < fewN (B.2 5) M → R 26 k = nI (layP (B.2 5) M k)
theorem m1_ne {n : Nat} (h : n < 2 ^ 31) : ¬ nI n = -1 := fun e => by
  rw [fa_eq, nI_toInt h] at e
  have e : (n : Int) = -1 := e
  omega
section
variable {B : Bk} {I : Nat → Int32} {R : Nat → Nat → Int32} {M : Nat}
theorem lX4_la32 (hv : InvB B) (hM : M < 2 ^ 14) (h24 : ∀ U, subN U M → U ≠ 0 → R 24 U = nI (pts (B.2 5) U 14)) (h25 : ∀ U, subN U M → R 25 U = nI (fewN (B.2 5) U)) {W j : Nat} (hW : subN W M) (hj : isLow W j) {x3 p1 : Int32} {post : Int32 → (Nat → Int32) → (Nat → Nat → Int32) → Prop}
    (hend : ∀ T, Best (B.2 5) W T → vp_in x3 14 ∧ ∀ x2 : Int32, x2 = nI W ^^^ nI T → qX4_layAll_9 post p1 x2 (x3 + 1) I (va_up R 26 (upd (R 26) x3.toNatClampNeg (nI T)))) :
    ∀ m part, part ≤ m → subN part (W ^^^ 2 ^ j) → ∀ x6 : Int32, ((x6 = -1 ∧ ∀ V, subN V (W ^^^ 2 ^ j) → part < V → ¬ Cand (B.2 5) W (V ||| 2 ^ j)) ∨ ∃ T, x6 = nI T ∧ Cand (B.2 5) W T ∧ ∀ V, subN V (W ^^^ 2 ^ j) → part < V → Cand (B.2 5) W (V ||| 2 ^ j) → ¬ bet (B.2 5) (V ||| 2 ^ j) T) → qX4_layAll_32 post p1 (nI W) x3 (nI (2 ^ j)) (nI (W ^^^ 2 ^ j)) x6 (nI part) I R
  | m, part, hm, hpart, x6, hx => by
    have hW14 := sub_lt hW hM
    have hr14 := sub_lt (sub_x (sub_p2 hj.1)) hW14
    have hp14 : part < 2 ^ 14 := sub_lt hpart hr14
    obtain ⟨a1, a2, a3, a4, a5⟩ := pg_of hj.1 hpart
    have hof := sub_lt a1 hW14
    have hofM : subN (part ||| 2 ^ j) M := fun i hi => hW i (a1 i hi)
    have hW0 : W ≠ 0 := fun e => by have z := hj.1; rw [e, Nat.zero_testBit] at z; cases z
    have next : ∀ x6 : Int32, ((x6 = -1 ∧ ∀ V, subN V (W ^^^ 2 ^ j) → part ≤ V → ¬ Cand (B.2 5) W (V ||| 2 ^ j)) ∨ ∃ T, x6 = nI T ∧ Cand (B.2 5) W T ∧ ∀ V, subN V (W ^^^ 2 ^ j) → part ≤ V → Cand (B.2 5) W (V ||| 2 ^ j) → ¬ bet (B.2 5) (V ||| 2 ^ j) T) → qX4_layAll_134 post p1 (nI W) x3 (nI (2 ^ j)) (nI (W ^^^ 2 ^ j)) x6 (nI part) I R := fun x6 hx => by
      refine kX4_layAll_134 ⟨fun c x7 e7 => ?_, fun c => ?_⟩
      · rw [nI_z (by omega)] at c
        rw [dec_int c] at e7
        rw [e7]
        have hle : (part - 1) &&& (W ^^^ 2 ^ j) ≤ part - 1 := Nat.and_le_left
        match m, hm with
        | 0, hm => omega
        | m + 1, hm =>
          have tr : ∀ V, subN V (W ^^^ 2 ^ j) → (part - 1) &&& (W ^^^ 2 ^ j) < V → part ≤ V := fun V hV1 hV2 => by
            rcases Nat.lt_or_ge V part with z | z
            · have := sm_dec _ part _ V hp14 (and_sub hpart) (and_sub hV1) z
              omega
            · exact z
          refine lX4_la32 hv hM h24 h25 hW hj hend m _ (by omega) (fun i hi => by rw [Nat.testBit_and, Bool.and_eq_true] at hi; exact hi.2) x6 ?_
          rcases hx with ⟨z1, z2⟩ | ⟨T, z1, z2, z3⟩
          · exact Or.inl ⟨z1, fun V hV1 hV2 => z2 V hV1 (tr V hV1 hV2)⟩
          · exact Or.inr ⟨T, z1, z2, fun V hV1 hV2 => z3 V hV1 (tr V hV1 hV2)⟩
      · rw [nI_z (by omega)] at c
        have of : ∀ U, Cand (B.2 5) W U → subN (U ^^^ 2 ^ j) (W ^^^ 2 ^ j) ∧ (U ^^^ 2 ^ j) ||| 2 ^ j = U := fun U hU => by
          obtain ⟨u1, ⟨i, u2, u3⟩, -, -⟩ := hU
          have := low_uniq u2 hj
          subst this
          exact pg_to u1 u3
        rcases hx with ⟨z1, z2⟩ | ⟨T, z1, z2, z3⟩
        · exfalso
          obtain ⟨U, hU⟩ := Cand_ex hv.size hW14 hW0
          obtain ⟨v1, v2⟩ := of U hU
          exact z2 _ v1 (by omega) (by rw [v2]; exact hU)
        · rw [z1]
          refine hend T ⟨z2, fun U hU => ?_⟩
          obtain ⟨v1, v2⟩ := of U hU
          have := z3 _ v1 (by omega) (by rw [v2]; exact hU)
          rw [v2] at this
          exact this
    have no : ¬ Cand (B.2 5) W (part ||| 2 ^ j) → qX4_layAll_134 post p1 (nI W) x3 (nI (2 ^ j)) (nI (W ^^^ 2 ^ j)) x6 (nI part) I R := fun hn => by
      refine next x6 ?_
      have tr : ∀ V, part ≤ V → Cand (B.2 5) W (V ||| 2 ^ j) → part < V := fun V hV hc => by
        rcases Nat.lt_or_ge part V with z | z
        · exact z
        · rw [show V = part by omega] at hc
          exact absurd hc hn
      rcases hx with ⟨z1, z2⟩ | ⟨T, z1, z2, z3⟩
      · exact Or.inl ⟨z1, fun V hV1 hV2 hV3 => z2 V hV1 (tr V hV2 hV3) hV3⟩
      · exact Or.inr ⟨T, z1, z2, fun V hV1 hV2 hV3 => z3 V hV1 (tr V hV2 hV3) hV3⟩
    refine kX4_layAll_32 (fun x8 e8 => ?_)
    rw [fa_or] at e8
    subst e8
    have p1' := pts_le B hv (part ||| 2 ^ j)
    rw [nI_clamp (by omega), h24 _ hofM a3, show (12 : Int32) = nI 12 from rfl, nI_ltI (by omega) (by omega)]
    refine ⟨vp_in_nI hof (by decide), fun g => kX4_layAll_76 ⟨fun _ => no (fun hc => ?_), fun c => absurd rfl c⟩, fun g => ?_⟩
    · have := hc.2.2.1
      omega
    · have hx14 : W ^^^ (part ||| 2 ^ j) < 2 ^ 14 := sub_lt (sub_x a1) hW14
      have f1 := few_le hv.size hW14
      have f2 := few_le hv.size hx14
      have f4 := few_pos hv.size hW14 hW0
      rw [fb_xorI, nI_clamp (by omega), nI_clamp (by omega), h25 _ (fun i hi => hW i (sub_x a1 i hi)), h25 _ hW, show (1 : Int32) = nI 1 from rfl, pk_sub (by omega), nI_eq (by omega) (by omega)]
      refine ⟨vp_in_nI hx14 (by decide), vp_in_nI hW14 (by decide), fun g2 => kX4_layAll_76 ⟨fun _ => no (fun hc => ?_), fun c => absurd rfl c⟩, fun g2 => kX4_layAll_76 ⟨fun c => absurd c (by decide), fun _ => ?_⟩⟩
      · have := hc.2.2.2
        unfold feas at this
        omega
      · have hc : Cand (B.2 5) W (part ||| 2 ^ j) := ⟨a1, ⟨j, hj, a4⟩, by omega, by unfold feas; omega⟩
        have take : (∀ T, x6 = nI T → Cand (B.2 5) W T → bet (B.2 5) (part ||| 2 ^ j) T) → qX4_layAll_134 post p1 (nI W) x3 (nI (2 ^ j)) (nI (W ^^^ 2 ^ j)) (nI (part ||| 2 ^ j)) (nI part) I R := fun hb => by
          refine next _ (Or.inr ⟨part ||| 2 ^ j, rfl, hc, fun V hV1 hV2 hV3 hV4 => ?_⟩)
          rcases Nat.lt_or_ge part V with z | z
          · rcases hx with ⟨z1, z2⟩ | ⟨T, z1, z2, z3⟩
            · exact z2 V hV1 z hV3
            · have b1 := hb T z1 z2
              have b2 := z3 V hV1 z hV3
              unfold bet at b1 b2 hV4
              omega
          · rw [show V = part by omega] at hV4
            unfold bet at hV4
            omega
        have keep : (∀ T, x6 = nI T → Cand (B.2 5) W T → ¬ bet (B.2 5) (part ||| 2 ^ j) T) → ¬ x6 = -1 → qX4_layAll_134 post p1 (nI W) x3 (nI (2 ^ j)) (nI (W ^^^ 2 ^ j)) x6 (nI part) I R := fun hb hne => by
          refine next _ ?_
          rcases hx with ⟨z1, z2⟩ | ⟨T, z1, z2, z3⟩
          · exact absurd z1 hne
          · refine Or.inr ⟨T, z1, z2, fun V hV1 hV2 hV3 => ?_⟩
            rcases Nat.lt_or_ge part V with z | z
            · exact z3 V hV1 z hV3
            · rw [show V = part by omega]
              exact hb T z1 z2
        refine ⟨fun g6 => take (fun T hT hcT => ?_), fun g6 => ⟨vp_in_nI hof (by decide), ?_⟩⟩
        · rw [hT] at g6
          exact absurd g6 (m1_ne (by have := sub_lt hcT.1 hW14; omega))
        · rcases hx with ⟨z1, z2⟩ | ⟨T, z1, z2, z3⟩
          · exact absurd z1 g6
          · have hT14 := sub_lt z2.1 hW14
            have hT0 : T ≠ 0 := fun e => by
              obtain ⟨i, -, u3⟩ := z2.2.1
              rw [e, Nat.zero_testBit] at u3
              cases u3
            have p2 := pts_le B hv T
            have uq : ∀ T2, x6 = nI T2 → Cand (B.2 5) W T2 → T2 = T := fun T2 hT2 hc2 => by
              have := sub_lt hc2.1 hW14
              rw [z1, nI_eq (by omega) (by omega)] at hT2
              exact hT2.symm
            rw [z1, nI_clamp (by omega), nI_clamp (by omega), h24 _ (fun i hi => hW i (z2.1 i hi)) hT0, h24 _ hofM a3, nI_ltI (by omega) (by omega), nI_eq (by omega) (by omega), nI_leI (by omega) (by omega), ← z1]
            refine ⟨by rw [z1]; exact vp_in_nI hT14 (by decide), fun g7 => take (fun T2 h1 h2 => ?_), fun g7 => ⟨fun g8 => keep (fun T2 h1 h2 => ?_) g6, fun g8 => ⟨fun g9 => keep (fun T2 h1 h2 => ?_) g6, fun g9 => take (fun T2 h1 h2 => ?_)⟩⟩⟩
            · rw [uq T2 h1 h2]; exact Or.inl g7
            · rw [uq T2 h1 h2]; unfold bet; omega
            · rw [uq T2 h1 h2]; unfold bet; omega
            · rw [uq T2 h1 h2]; exact Or.inr ⟨g8, by omega⟩
theorem lX4_la9 (hv : InvB B) (hM : M < 2 ^ 14) : ∀ d i, i + d = fewN (B.2 5) M → ∀ R : Nat → Nat → Int32, RM I R B → (∀ U, subN U M → U ≠ 0 → R 24 U = nI (pts (B.2 5) U 14)) → (∀ U, subN U M → R 25 U = nI (fewN (B.2 5) U)) → (∀ k, k < i → R 26 k = nI (layP (B.2 5) M k)) → qX4_layAll_9 (pLa B M I) (nI M) (nI (rst (B.2 5) M i)) (nI i) I R
  | d, i, e, R, h, h24, h25, h26 => by
    have hsub := rst_sub hv.size hM i
    have hW14 := sub_lt hsub hM
    have hf := rst_few hv.size hM i (by omega)
    have hfl := few_le hv.size hM
    refine kX4_layAll_9 ⟨fun c => ?_, fun c x4 e4 x5 e5 => ?_⟩
    · rw [nI_z (by omega)] at c
      rw [c, few_0] at hf
      have ei : i = fewN (B.2 5) M := by omega
      exact ⟨by rw [ei], rfl, h, fun k hk => h26 k (by omega)⟩
    · rw [nI_z (by omega)] at c
      obtain ⟨j, hj14, hj⟩ := low_ex hW14 c
      have fp := few_pos hv.size hW14 c
      rw [low_int (by omega) hj] at e4
      rw [e4, fb_xorI] at e5
      rw [e4, e5]
      refine lX4_la32 hv hM h24 h25 hsub hj (fun T hT => ⟨vp_in_nI (by omega) (by decide), fun x2 e2 => ?_⟩) _ _ (Nat.le_refl _) (fun x hx => hx) (-1) (Or.inl ⟨rfl, fun V hV1 hV2 => ?_⟩)
      · rw [fb_xorI] at e2
        have eT := nextP_is c hT
        match d, e with
        | 0, e => omega
        | d + 1, e =>
          have ih := lX4_la9 hv hM d (i + 1) (by omega) (va_up R 26 (upd (R 26) i (nI T))) (h.upR (j := 26) (by decide) _) h24 h25 (fun k hk => by
            rw [vu_eq]
            by_cases ek : k = i
            · subst ek; rw [pk_us]; unfold layP; rw [eT]
            · rw [pk_un ek]; exact h26 k (by omega))
          have er : rst (B.2 5) M (i + 1) = rst (B.2 5) M i ^^^ T := by
            show rst (B.2 5) M i ^^^ nextP (B.2 5) (rst (B.2 5) M i) = _
            rw [eT]
          rw [er] at ih
          rw [e2, nI_1, nI_clamp (by omega)]
          exact ih
      · have := sub_leN hV1
        omega
theorem sX4_layAll (hv : InvB B) (h : RM I R B) (hM : M < 2 ^ B.1 11) : qX4_layAll (pLa B M I) (nI M) I R := by
  have hM14 : M < 2 ^ 14 := Nat.lt_of_lt_of_le hM (p2_14 hv.np)
  refine ⟨_, sX4_pack hv h hM, fun I2 R2 hq => ?_⟩
  obtain ⟨e1, e2, e3, e4, e5⟩ := hq
  subst e1
  exact lX4_la9 hv hM14 _ 0 (Nat.zero_add _) R2 e2 e3 e4 (fun k hk => absurd hk (Nat.not_lt_zero k))
theorem RM.setRow {R' : Nat → Nat → Int32} (h : RM I R B) {f : Nat → Nat} (hR : ∀ i, R' 17 i = nI (f i)) (hE : ∀ j, j ≠ 17 → R' j = R j) : RM I R' (B.1, va_up B.2 17 f) := ⟨h.1, fun j hj i => by
  show R' j i = nI (va_up B.2 17 f j i)
  by_cases e : j = 17
  · subst e; rw [vu_eq]; exact hR i
  · rw [vu_ne e, hE j e]; exact h.2 j hj i⟩
/-- pages set anew -/
def setPg (B : Bk) (n : Nat) (f : Nat → Nat) : Bk := setI (B.1, va_up B.2 17 f) 18 n
theorem lX4_lay45 (hv : InvB B) {n : Nat} {f : Nat → Nat} (hn : n ≤ 14) {R0 : Nat → Nat → Int32} (h0 : RM I R0 B) (h26 : ∀ k, k < n → R0 26 k = nI (f k)) : ∀ m g, g + m = n → ∀ R : Nat → Nat → Int32, (∀ j, j ≠ 17 → R j = R0 j) → (∀ i, R 17 i = nI (if i < g then f i else B.2 17 i)) → qX4_lay_45 (pQ (setPg B n (fun i => if i < n then f i else B.2 17 i)) (nI n)) (nI g) (va_up I 18 (nI n)) R
  | 0, g, e, R, hR, h17 => by
    have e : g = n := by omega
    subst e
    refine kX4_lay_45 ⟨fun _ => ⟨vu_eq, (RM.setRow h0 h17 hR).setI 18 g⟩, fun c => ?_⟩
    rw [vu_eq, nI_leI (by omega) (by omega)] at c
    omega
  | m + 1, g, e, R, hR, h17 => by
    refine kX4_lay_45 ⟨fun c => ?_, fun _ => ⟨vp_in_nI (by omega) (by decide), ?_⟩⟩
    · rw [vu_eq, nI_leI (by omega) (by omega)] at c
      omega
    · rw [nI_clamp (by omega), nI_1, hR 26 (by decide), h26 g (by omega)]
      refine lX4_lay45 hv hn h0 h26 m (g + 1) (by omega) _ (fun j hj => by rw [vu_ne hj]; exact hR j hj) (fun i => ?_)
      rw [vu_eq]
      by_cases ei : i = g
      · subst ei; rw [pk_us, if_pos (by omega)]
      · rw [pk_un ei, h17 i]
        by_cases g2 : i < g
        · rw [if_pos g2, if_pos (by omega)]
        · rw [if_neg g2, if_neg (by omega)]
end
noncomputable def layF (B : Bk) : Nat → Nat := fun i => if i < fewN (B.2 5) (B.1 16) then layP (B.2 5) (B.1 16) i else B.2 17 i
noncomputable def layN (B : Bk) : Bk := if fewN (B.2 5) (B.1 16) ≤ B.1 15 then setPg B (fewN (B.2 5) (B.1 16)) (layF B) else B
noncomputable def layI (B : Bk) : Int32 := if fewN (B.2 5) (B.1 16) ≤ B.1 15 then nI (fewN (B.2 5) (B.1 16)) else -1
theorem inv_pg {B : Bk} (hv : InvB B) (hg : PgI B) {n : Nat} {f : Nat → Nat} (hn : n ≤ 14) (hf : ∀ g, g < n → f g < 2 ^ B.1 11 ∧ pts (B.2 5) (f g) 14 ≤ 12) : InvB (setPg B n f) ∧ PgI (setPg B n f) := by
  obtain ⟨⟨a1, a2, a3, a4, a5, a6, a7, a8, a9⟩, hb, hd, hd5⟩ := hv
  exact ⟨⟨⟨a1, a2, a3, a4, a5, a6, a7, a8, hn⟩, hb, hd, fun g h9 => (hf g h9).1⟩, fun g h9 => (hf g h9).2⟩
theorem ct_full {n : Nat} : ∀ h, h ≤ n → fb_ct (fun i => (2 ^ n - 1).testBit i) h = h := fun h hh => fb_ct_all.mpr (fun k hk => by rw [Nat.testBit_two_pow_sub_one]; exact decide_eq_true (by omega))
theorem ag_lay : Ag_lay JJ := fun {k c s u v} hk hj => by
  obtain ⟨B, lt, hv, hg, hc, hm, h1, h2⟩ := hj
  have hn := hv.np
  have hch := ch_lt hv
  have hlast := hv.last
  have h9 := hm.upI (j := 19) (by decide) 0
  have hfl := few_le hv.size hch
  obtain ⟨lt', l1, l2, l3, l4⟩ := sX1_pagesFor (lt0 := lt) hv hv.ch (RCc.pk hc).2.2.1
  have hpw : 2 ^ (lt' + 1) ≤ 2 ^ 15 := Nat.pow_le_pow_right (by decide) (by omega)
  have hpl : 2 ^ (lt + 1) ≤ 2 ^ (lt' + 1) := Nat.pow_le_pow_right (by decide) (by omega)
  have hinv : InvB (layN B) ∧ PgI (layN B) := by
    unfold layN
    split
    · refine inv_pg hv hg hfl (fun g h9 => ?_)
      have e : layF B g = layP (B.2 5) (B.1 16) g := if_pos h9
      rw [e]
      exact ⟨sub_lt (layP_sub hv.size hch g) hv.ch, layP_pts hv.size hch g⟩
    · exact ⟨hv, hg⟩
  have h11 : (layN B).1 11 = B.1 11 := by unfold layN; split <;> rfl
  refine ⟨lt' - lt, 2 ^ (lt' + 1) - 2 ^ (lt + 1), fun r I R CI CJ CR CG EI ER Eq En V => r = layI B ∧ RC (I, R, CI, CJ, CR, CG, EI, ER, Eq, En, V) (layN B) lt', by omega, by omega, ?_, fun r u' hr => ⟨pQ (layN B) (layI B), ?_, fun r' v' hq => ⟨hr.1.trans hq.1.symm, layN B, lt', hinv.1, hinv.2, hr.2, hq.2, by rw [h11]; omega, by rw [h11]; omega⟩⟩⟩
  · refine ⟨_, _, ⟨by rw [Nat.zero_add]; exact Nat.le_refl _, by rw [Nat.zero_add]; exact Nat.le_refl _⟩, fun r EI ER Eq En => r = layI B ∧ RC (u.1, u.2.1, u.2.2.1, u.2.2.2.1, u.2.2.2.2.1, u.2.2.2.2.2.1, EI, ER, Eq, En, u.2.2.2.2.2.2.2.2.2.2) (layN B) lt', ?_, fun r EI ER Eq En hq => hq⟩
    refine ⟨_, _, ⟨by rw [Nat.zero_add]; exact Nat.le_refl _, by rw [Nat.zero_add]; exact Nat.le_refl _⟩, _, (by rw [RCc.i6 hc]; exact l4 _ _ _ _ (RCc.pk hc)), fun r EI ER Eq En hq => ?_⟩
    obtain ⟨q1, q2, q3, q4⟩ := hq
    have hlr : u.2.1 5 3 = nI (B.1 15) := RCc.last hc
    have hrc := RCc.withPk hc q2 (q3 3 (by decide)) (q4 2 (by decide))
    rw [q1, hlr, nI_ltI (by omega) (by omega), show (14 : Int32) = nI 14 from rfl, nI_ltI (by omega) (by omega)]
    unfold layI layN
    refine ⟨fun g => ?_, fun g => ⟨fun g2 => absurd g2 (by omega), fun _ => ⟨fun _ => ?_, fun g2 => absurd (nI_pos' (by omega)) g2⟩⟩⟩
    · rw [if_neg (by omega), if_neg (by omega)]
      exact ⟨rfl, hrc⟩
    · have hp := tb_p2 (k := fewN (B.2 5) (B.1 16)) (by omega)
      rw [if_pos (by omega), if_pos (by omega), tb_shl _ (by omega), show (1 : Int32) = nI 1 from rfl, pk_sub hp.1, RCc.i6 hc]
      refine ⟨_, sX1_layOnto hv (EI := va_up EI 3 (nI (fewN (B.2 5) (B.1 16)))) l3 (by omega) hfl vu_eq (q2.of rfl rfl rfl rfl rfl), fun I2 R2 q2' n2 hq2 => ⟨rfl, ?_⟩⟩
      obtain ⟨w1, w2, w3, w4⟩ := hq2
      obtain ⟨k1, k2, k3, k4, k5, k6⟩ := w1
      obtain ⟨a1, a2, a3, ⟨b1, b2, b3, b4⟩, cc⟩ := hrc
      refine ⟨a1, a2, a3, ⟨k1, ?_, k2, fun g hg9 => ?_⟩, k3, k4, k5, k6⟩
      · exact w2 3 (by decide)
      · have hg9 : g < fewN (B.2 5) (B.1 16) := hg9
        show R2 2 g = nI (layF B g)
        rw [w4 g hg9, Nat.testBit_two_pow_sub_one, decide_eq_true hg9, if_pos rfl, ct_full g (by omega)]
        unfold layF
        rw [if_pos hg9]
  · unfold qX4_lay
    rw [hm.i16]
    refine ⟨_, sX4_pack hv h9 hv.ch, fun I2 R2 hq => ?_⟩
    obtain ⟨q1, q2, q3, q4, q5⟩ := hq
    subst q1
    have e16 : (va_up v.1 19 0) 16 = nI (B.1 16) := h9.i16
    have e15 : (va_up v.1 19 0) 15 = nI (B.1 15) := h9.i15
    rw [e16, e15, nI_clamp (by omega), q4 _ (fun i hi => hi), nI_leI (by omega) (by omega)]
    unfold layI layN
    refine ⟨vp_in_nI hch (by decide), fun g => ⟨_, sX4_layAll hv q2 hv.ch, fun rc3 I3 R3 hq3 => ?_⟩, fun g => ?_⟩
    · obtain ⟨t1, t2, t3, t4⟩ := hq3
      rw [t1, t2, if_pos g, if_pos g]
      exact lX4_lay45 hv hfl t3 t4 _ 0 (Nat.zero_add _) R3 (fun _ _ => rfl) (fun i => by rw [if_neg (by omega)]; exact t3.r17 i)
    · rw [if_neg g, if_neg g]
      exact ⟨rfl, q2⟩
