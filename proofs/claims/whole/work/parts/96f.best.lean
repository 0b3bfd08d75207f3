/-! best, mend -/
section
variable {B : Bk} {nr : Bool}
theorem mS_form (nr : Bool) (S : Nat) : ∀ n, mkS B nr S n = 262144 * (sumB B S n : Int) - 16384 * (fb_ct (fun i => S.testBit i) n : Int) - (pts (fun i => 2 ^ i) S n : Int) + (if nr then 4294967296 * ((fb_ct (fun i => (B.1 16).testBit i) n : Int) - (fb_ct (fun i => (S ^^^ B.1 16).testBit i) n : Int)) else 0)
  | 0 => by cases nr <;> rfl
  | n + 1 => by
    have ih := mS_form nr S n
    have e1 : mkS B nr S (n + 1) = mkS B nr S n + (if S.testBit n then mk B nr n else 0) := rfl
    have hp := pow_int n
    rw [e1, ih]
    simp only [fb_ct_succ, sumB_succ, pts_succ, Nat.testBit_xor]
    unfold mk
    rw [← hp]
    generalize (2 ^ n : Nat) = P
    cases hs : S.testBit n <;> cases hc : (B.1 16).testBit n <;> cases nr <;> simp <;> omega
theorem sumB_le (hv : InvB B) (S : Nat) : sumB B S (B.1 11) ≤ 1400 := by
  have hn := hv.np
  have : ∀ n, sumB B S n ≤ n * 100 := fun n => by
    induction n with
    | zero => exact Nat.zero_le _
    | succ n ih =>
      rw [sumB_succ]
      have := hv.worth n
      split <;> omega
  have := this (B.1 11)
  omega
theorem mS_val (hv : InvB B) (nr : Bool) {S : Nat} (hS : S < 2 ^ B.1 11) : mkS B nr S (B.1 11) = 262144 * (sumB B S (B.1 11) : Int) - 16384 * (cnt S : Int) - (S : Int) + (if nr then 4294967296 * ((cnt (B.1 16) : Int) - (cnt (S ^^^ B.1 16) : Int)) else 0) := by
  rw [mS_form nr S, cnt_n hS hv.np, cnt_n hv.ch hv.np, cnt_n (Nat.xor_lt_two_pow hS hv.ch) hv.np, pts_val, Nat.mod_eq_of_lt hS]
theorem good_lt {S : Nat} (h : S &&& goodS B = S) : S < 2 ^ B.1 11 := sub_lt (sub_and h) goodS_lt11
theorem MaxS_uniq (hv : InvB B) {S T : Nat} (h1 : MaxS B nr S) (h2 : MaxS B nr T) : S = T := by
  have hS := good_lt h1.1
  have hT := good_lt h2.1
  have a := h1.2.2 T h2.1 h2.2.1
  have b := h2.2.2 S h1.1 h1.2.1
  have p14 := p2_14 hv.np
  have s1 := sumB_le hv S
  have s2 := sumB_le hv T
  have c1 := cnt_le (S := S)
  have c2 := cnt_le (S := T)
  have x1 := cnt_le (S := S ^^^ B.1 16)
  have x2 := cnt_le (S := T ^^^ B.1 16)
  rw [mS_val hv nr hS, mS_val hv nr hT] at a b
  cases nr
  · simp at a b
    omega
  · simp at a b
    omega
variable {I : Nat → Int32} {R : Nat → Nat → Int32}
theorem lX4_ah36 (h : RM I R B) (hv : InvB B) {a b : Nat} (ha : a < 2 ^ B.1 11) (hb : b < 2 ^ B.1 11) {p3 : Int32} {q : Bool} {x y : Nat} (hx : x ≤ 14) (hy : y ≤ 14) (hq : q = true ↔ (x < y ∨ (x = y ∧ (sumB B b (B.1 11) < sumB B a (B.1 11) ∨ (sumB B a (B.1 11) = sumB B b (B.1 11) ∧ cnt a < cnt b))))) : qX4_isAhead_36 (fun r => r = b2i q) (nI a) (nI b) p3 I R (nI x) (nI y) := by
  have p14 := p2_14 hv.np
  have s1 := sumB_le hv a
  have s2 := sumB_le hv b
  have c1 := cnt_le (S := a)
  have c2 := cnt_le (S := b)
  have yes : q = true → (1 : Int32) = b2i q := fun e => by rw [e]; rfl
  have no : ¬ q = true → (0 : Int32) = b2i q := fun e => by rw [of_not_true e]; rfl
  refine kX4_isAhead_36 ?_
  rw [nI_eq (by omega) (by omega), nI_leI (by omega) (by omega)]
  refine ⟨fun g => ⟨_, sX4_sum h hv (by omega), fun r3 h3 => ⟨_, sX4_sum h hv (by omega), fun r4 h4 => ?_⟩⟩, fun g => ⟨fun g2 => no (by rw [hq]; omega), fun g2 => yes (by rw [hq]; omega)⟩⟩
  rw [h3, h4, nI_eq (by omega) (by omega)]
  refine ⟨fun g2 => ⟨_, sJ6_bitCount (by omega), fun r5 h5 => ⟨_, sJ6_bitCount (by omega), fun r6 h6 => ?_⟩⟩, fun g2 => ⟨_, sX4_sum h hv (by omega), fun r7 h7 => ⟨_, sX4_sum h hv (by omega), fun r8 h8 => ?_⟩⟩⟩
  · rw [h5, h6, nI_leI (by omega) (by omega)]
    exact ⟨fun g3 => no (by rw [hq]; omega), fun g3 => yes (by rw [hq]; omega)⟩
  · rw [h7, h8, nI_leI (by omega) (by omega)]
    exact ⟨fun g3 => no (by rw [hq]; omega), fun g3 => yes (by rw [hq]; omega)⟩
theorem sX4_isAhead (h : RM I R B) (hv : InvB B) (nr : Bool) {a b : Nat} (ha : a < 2 ^ B.1 11) (hb : b < 2 ^ B.1 11) (hab : b < a) : qX4_isAhead (fun r => r = b2i (decide (mkS B nr b (B.1 11) < mkS B nr a (B.1 11)))) (nI a) (nI b) (b2i nr) I R := by
  have p14 := p2_14 hv.np
  have hch := ch_lt hv
  have s1 := sumB_le hv a
  have s2 := sumB_le hv b
  have c1 := cnt_le (S := a)
  have c2 := cnt_le (S := b)
  have x1 := cnt_le (S := a ^^^ B.1 16)
  have x2 := cnt_le (S := b ^^^ B.1 16)
  have l1 : a ^^^ B.1 16 < 2 ^ 14 := Nat.xor_lt_two_pow (by omega) hch
  have l2 : b ^^^ B.1 16 < 2 ^ 14 := Nat.xor_lt_two_pow (by omega) hch
  cases nr
  · refine ⟨fun _ => kX4_isAhead_17 ⟨fun _ => ?_, fun e => absurd rfl e⟩, fun e => absurd rfl e⟩
    refine lX4_ah36 h hv ha hb (x := 0) (y := 0) (by decide) (by decide) ?_
    rw [decide_eq_true_eq, mS_val hv _ ha, mS_val hv _ hb]
    simp
    omega
  · refine ⟨fun e => absurd e (by decide), fun _ => ?_⟩
    rw [h.i16, fb_xorI]
    refine ⟨_, sJ6_bitCount l1, fun r1 h1 => kX4_isAhead_17 ⟨fun e => absurd e (by decide), fun _ => ?_⟩⟩
    rw [h.i16, fb_xorI]
    refine ⟨_, sJ6_bitCount l2, fun r2 h2 => ?_⟩
    rw [h1, h2]
    refine lX4_ah36 h hv ha hb x1 x2 ?_
    rw [decide_eq_true_eq, mS_val hv _ ha, mS_val hv _ hb]
    simp
    omega
/-- found among those below s -/
def FbS (B : Bk) (nr : Bool) (s : Nat) (x : Int32) : Prop := (x = -1 ∧ ∀ T, T < s → T &&& goodS B = T → ¬ fits B T) ∨ ∃ F, x = nI F ∧ F < s ∧ F &&& goodS B = F ∧ fits B F ∧ ∀ T, T < s → T &&& goodS B = T → fits B T → mkS B nr T (B.1 11) ≤ mkS B nr F (B.1 11)
theorem lX4_search (hv : InvB B) (h : Tk B I R) {post : Int32 → (Nat → Int32) → (Nat → Nat → Int32) → Prop} (hpost : ∀ x : Int32, FbS B nr (2 ^ B.1 11) x → post x I R) : ∀ m s, s + m = 2 ^ B.1 11 → ∀ x : Int32, FbS B nr s x → qX4_search_14 post (b2i nr) (nI (goodS B)) x (nI s) I R
  | 0, s, e, x, hx => by
    have hn := hv.np
    have hp := tb_p2 (k := B.1 11) (by omega)
    have e : s = 2 ^ B.1 11 := by omega
    subst e
    refine kX4_search_14 ⟨fun _ => hpost x hx, fun c => ?_⟩
    rw [h.1.i11, tb_shl _ (by omega), nI_leI (by omega) (by omega)] at c
    omega
  | m + 1, s, e, x, hx => by
    have hn := hv.np
    have hp14 := p2_14 hn
    have hw := whyB_le (B := B) s
    have ha : andN s (goodS B) < 2 ^ 31 := andN_lt (by omega)
    have next : ∀ x : Int32, FbS B nr (s + 1) x → qX4_search_14 post (b2i nr) (nI (goodS B)) x (nI s + 1) I R := fun x hx => by
      rw [nI_1]
      exact lX4_search hv h hpost m (s + 1) (by omega) x hx
    have skip : (s &&& goodS B = s → ¬ fits B s) → qX4_search_14 post (b2i nr) (nI (goodS B)) x (nI s + 1) I R := fun hno => by
      refine next x ?_
      rcases hx with ⟨z1, z2⟩ | ⟨F, z1, z2, z3, z4, z5⟩
      · refine Or.inl ⟨z1, fun T h1 h2 h3 => ?_⟩
        by_cases g : T = s
        · subst g; exact hno h2 h3
        · exact z2 T (by omega) h2 h3
      · refine Or.inr ⟨F, z1, by omega, z3, z4, fun T h1 h2 h3 => ?_⟩
        by_cases g : T = s
        · subst g; exact absurd h3 (hno h2)
        · exact z5 T (by omega) h2 h3
    refine kX4_search_14 ⟨fun c => ?_, fun _ => ⟨fun c => skip (fun g => ?_), fun c => ⟨_, sX4_why h hv (by omega), fun rc hrc => ⟨fun c2 => ⟨fun c3 => ?_, fun c3 => ?_⟩, fun c2 => skip (fun _ hf => ?_)⟩⟩⟩⟩
    · rw [h.1.i11, tb_shl _ (by omega), nI_leI (by omega) (by omega)] at c
      omega
    · rw [tb_andN, nI_z ha, and_z] at c
      exact absurd g c
    · rw [tb_andN, nI_z ha, and_z] at c
      rw [hrc, show (0 : Int32) = nI 0 from rfl, nI_leI (by omega) (by omega)] at c2
      have hf : fits B s := (why_fits hv).mp (by omega)
      refine next _ (Or.inr ⟨s, rfl, by omega, c, hf, fun T h1 h2 h3 => ?_⟩)
      rcases hx with ⟨z1, z2⟩ | ⟨F, z1, z2, z3, z4, z5⟩
      · by_cases g : T = s
        · subst g; exact Int.le_refl _
        · exact absurd h3 (z2 T (by omega) h2)
      · rw [z1] at c3
        exact absurd c3 (m1_ne (by omega))
    · rw [tb_andN, nI_z ha, and_z] at c
      rw [hrc, show (0 : Int32) = nI 0 from rfl, nI_leI (by omega) (by omega)] at c2
      have hf : fits B s := (why_fits hv).mp (by omega)
      rcases hx with ⟨z1, z2⟩ | ⟨F, z1, z2, z3, z4, z5⟩
      · exact absurd z1 c3
      · rw [z1]
        refine ⟨_, sX4_isAhead h.1 hv nr (by omega) (by omega) z2, fun rc4 h4 => ?_⟩
        rw [h4, b2i_0, decide_eq_false_iff_not]
        refine ⟨fun g => next _ (Or.inr ⟨F, rfl, by omega, z3, z4, fun T h1 h2 h3 => ?_⟩), fun g => next _ (Or.inr ⟨s, rfl, by omega, c, hf, fun T h1 h2 h3 => ?_⟩)⟩
        · by_cases e : T = s
          · subst e; omega
          · exact z5 T (by omega) h2 h3
        · by_cases e : T = s
          · subst e; exact Int.le_refl _
          · have := z5 T (by omega) h2 h3
            omega
    · rw [hrc, show (0 : Int32) = nI 0 from rfl, nI_leI (by omega) (by omega)] at c2
      have := (why_fits hv).mpr hf
      omega
theorem sX4_search (h : RM I R B) (hv : InvB B) (nr : Bool) : qX4_search (fun x I' R' => RM I' R' B ∧ ((x = -1 ∧ ∀ S, ¬ MaxS B nr S) ∨ ∃ S, x = nI S ∧ MaxS B nr S)) (b2i nr) I R := by
  refine ⟨_, sX4_good h hv, fun rc I1 R1 hr => ?_⟩
  obtain ⟨e1, e2, e3, e4⟩ := hr
  have e1 : rc = nI (goodS B) := e1
  rw [e1, e2]
  refine ⟨_, sX4_takeSeen e3 hv, fun I2 R2 h2 => lX4_search hv h2 (fun x hx => ⟨h2.1, ?_⟩) (2 ^ B.1 11) 0 (Nat.zero_add _) (-1) (Or.inl ⟨rfl, fun T hT => absurd hT (Nat.not_lt_zero T)⟩)⟩
  rcases hx with ⟨z1, z2⟩ | ⟨F, z1, z2, z3, z4, z5⟩
  · exact Or.inl ⟨z1, fun S hS => z2 S (good_lt hS.1) hS.1 hS.2.1⟩
  · exact Or.inr ⟨F, z1, z3, z4, fun T hT hf => z5 T (good_lt hT) hT hf⟩
end
/-- a choice decided -/
def decB (B : Bk) (S : Nat) : Bk := setI (setI B 16 S) 18 0
theorem inv_dec {B : Bk} (hv : InvB B) {S : Nat} (hS : S < 2 ^ B.1 11) : InvB (decB B S) ∧ PgI (decB B S) := by
  obtain ⟨⟨a1, a2, a3, a4, a5, a6, a7, a8, a9⟩, hb, hd, hd5⟩ := hv
  exact ⟨⟨⟨a1, a2, a3, a4, a5, a6, a7, hS, Nat.zero_le _⟩, hb, hd, fun g hg => absurd hg (Nat.not_lt_zero g)⟩, fun g hg => absurd hg (Nat.not_lt_zero g)⟩
theorem sX3_decide {I : Nat → Int32} {R : Nat → Nat → Int32} {CI : Nat → Int32} {CJ : Nat → Int64} {CR : Nat → Nat → Int32} {CG : Nat → Nat → Int64} {EI : Nat → Int32} {ER : Nat → Nat → Int32} {Eq En : Nat} {V : vS} {B : Bk} {lt : Nat} (h : RCc I R EI ER En V B lt) (S : Nat) : qX3_decide (fun I' R' CI' CJ' CR' CG' EI' ER' Eq' En' V' => RCc I' R' EI' ER' En' V' (decB B S) lt ∧ I' 6 = nI S) (nI S) I R CI CJ CR CG EI ER Eq En V := by
  refine ⟨fun EI' ER' Eq' En' => EI' = va_up EI 3 0 ∧ ER' = ER ∧ Eq' = Eq ∧ En' = En, ⟨rfl, rfl, rfl, rfl⟩, fun EI' ER' Eq' En' hq => ?_⟩
  obtain ⟨e1, e2, e3, e4⟩ := hq
  rw [e1, e2, e4]
  obtain ⟨⟨h1, h2, h3⟩, h4, h10, ⟨h11, h12, h13, h14⟩, h15⟩ := h
  exact ⟨⟨⟨h1, h2, rfl⟩, h4, h10, ⟨h11, rfl, h13, fun g hg => absurd hg (Nat.not_lt_zero g)⟩, h15⟩, vu_eq⟩
theorem ag_best : Ag_best JJ := fun {k c s u v} hk hj => by
  obtain ⟨B, lt, hv, hg, hc, hm, h1, h2⟩ := hj
  have h9 := hm.upI (j := 19) (by decide) 0
  have p14 := p2_14 hv.np
  by_cases hex : ∃ S, MaxS B false S
  · obtain ⟨S, hS⟩ := hex
    have hSl := good_lt hS.1
    obtain ⟨i1, i2⟩ := inv_dec hv hSl
    refine ⟨fun r I R CI CJ CR CG EI ER Eq En V => r = nI (sumB B S (B.1 11)) ∧ RC (I, R, CI, CJ, CR, CG, EI, ER, Eq, En, V) (decB B S) lt, ?_, fun r u' hr => ⟨pQ (decB B S) (nI (sumB B S (B.1 11))), ?_, fun r' v' hq => ⟨hr.1.trans hq.1.symm, decB B S, lt, i1, i2, hr.2, hq.2, ?_, ?_⟩⟩⟩
    · refine ⟨fun I R CI CJ CR CG EI ER Eq En V => RCc I R EI ER En V B lt ∧ ChS B false CI CJ CR CG, sX3_offer hc hv false (fun CI CJ CR CG hch => ⟨hc, hch⟩), fun I R CI CJ CR CG EI ER Eq En V hq => ⟨_, sX0_findBest hv hq.2, fun rc CI2 CJ2 CR2 CG2 hq2 => ?_⟩⟩
      rcases hq2 with ⟨z1, z2⟩ | ⟨z1, S2, z2, z3⟩
      · exact absurd hS (z2 S)
      · have := MaxS_uniq hv z3 hS
        subst this
        rw [z1, z2]
        refine ⟨fun _ => ⟨_, sX3_decide hq.1 S2, fun I3 R3 CI3 CJ3 CR3 CG3 EI3 ER3 Eq3 En3 V3 hq3 => ⟨_, sX3_worthOfChoice hq3.1 i1, fun rc4 hrc4 => ⟨hrc4, hq3.1⟩⟩⟩, fun e => absurd e (by decide)⟩
    · refine ⟨_, sX4_search h9 hv false, fun x I1 R1 hq => ?_⟩
      obtain ⟨q1, ⟨z1, z2⟩ | ⟨S2, z1, z2⟩⟩ := hq
      · exact absurd hS (z2 S)
      · have := MaxS_uniq hv z2 hS
        subst this
        rw [z1]
        refine ⟨fun _ => ?_, fun e => absurd e (m1_ne (by omega))⟩
        have hb : RM (va_up (va_up I1 16 (nI S2)) 18 0) R1 (decB B S2) := (q1.setI 16 S2).setI 18 0
        exact ⟨_, sX4_sum hb i1 (by omega), fun rc hrc => ⟨hrc, hb⟩⟩
    · show c ≤ 36 + 6 * B.1 11 + lt + (k + 1)
      omega
    · show s ≤ 33600 + 47 * B.1 11 + 2 ^ (lt + 1) + 6 * (k + 1)
      omega
  · refine ⟨fun r I R CI CJ CR CG EI ER Eq En V => r = -1 ∧ RC (I, R, CI, CJ, CR, CG, EI, ER, Eq, En, V) B lt, ?_, fun r u' hr => ⟨pQ B (-1), ?_, fun r' v' hq => ⟨hr.1.trans hq.1.symm, B, lt, hv, hg, hr.2, hq.2, by omega, by omega⟩⟩⟩
    · refine ⟨fun I R CI CJ CR CG EI ER Eq En V => RCc I R EI ER En V B lt ∧ ChS B false CI CJ CR CG, sX3_offer hc hv false (fun CI CJ CR CG hch => ⟨hc, hch⟩), fun I R CI CJ CR CG EI ER Eq En V hq => ⟨_, sX0_findBest hv hq.2, fun rc CI2 CJ2 CR2 CG2 hq2 => ?_⟩⟩
      rcases hq2 with ⟨z1, z2⟩ | ⟨z1, S2, z2, z3⟩
      · exact ⟨fun e => absurd z1 e, fun _ => ⟨rfl, hq.1⟩⟩
      · exact absurd ⟨S2, z3⟩ hex
    · refine ⟨_, sX4_search h9 hv false, fun x I1 R1 hq => ?_⟩
      obtain ⟨q1, ⟨z1, z2⟩ | ⟨S2, z1, z2⟩⟩ := hq
      · exact ⟨fun e => absurd z1 e, fun _ => ⟨rfl, q1⟩⟩
      · exact absurd ⟨S2, z2⟩ hex
theorem ag_mend : Ag_mend JJ := fun {k c s u v} hk hj => by
  obtain ⟨B, lt, hv, hg, hc, hm, h1, h2⟩ := hj
  have h9 := hm.upI (j := 19) (by decide) 0
  have p14 := p2_14 hv.np
  have hch := ch_lt hv
  by_cases hex : ∃ S, MaxS B true S
  · obtain ⟨S, hS⟩ := hex
    have hSl := good_lt hS.1
    obtain ⟨i1, i2⟩ := inv_dec hv hSl
    have hx : S ^^^ B.1 16 < 2 ^ 14 := Nat.xor_lt_two_pow (by omega) hch
    refine ⟨fun r I R CI CJ CR CG EI ER Eq En V => r = nI (cnt (S ^^^ B.1 16)) ∧ RC (I, R, CI, CJ, CR, CG, EI, ER, Eq, En, V) (decB B S) lt, ?_, fun r u' hr => ⟨pQ (decB B S) (nI (cnt (S ^^^ B.1 16))), ?_, fun r' v' hq => ⟨hr.1.trans hq.1.symm, decB B S, lt, i1, i2, hr.2, hq.2, ?_, ?_⟩⟩⟩
    · refine ⟨fun I R CI CJ CR CG EI ER Eq En V => RCc I R EI ER En V B lt ∧ ChS B true CI CJ CR CG, sX3_offer hc hv true (fun CI CJ CR CG hch => ⟨hc, hch⟩), fun I R CI CJ CR CG EI ER Eq En V hq => ⟨_, sX0_findBest hv hq.2, fun rc CI2 CJ2 CR2 CG2 hq2 => ?_⟩⟩
      rcases hq2 with ⟨z1, z2⟩ | ⟨z1, S2, z2, z3⟩
      · exact absurd hS (z2 S)
      · have := MaxS_uniq hv z3 hS
        subst this
        rw [z1, z2]
        refine ⟨fun _ x1 e1 => ⟨_, sX3_decide hq.1 S2, fun I3 R3 CI3 CJ3 CR3 CG3 EI3 ER3 Eq3 En3 V3 hq3 => ?_⟩, fun e => absurd e (by decide)⟩
        rw [e1, hq.1.i6, hq3.2, fb_xorI, Nat.xor_comm]
        exact ⟨_, sJ6_bitCount hx, fun rc4 hrc4 => ⟨hrc4, hq3.1⟩⟩
    · refine ⟨_, sX4_search h9 hv true, fun x I1 R1 hq => ?_⟩
      obtain ⟨q1, ⟨z1, z2⟩ | ⟨S2, z1, z2⟩⟩ := hq
      · exact absurd hS (z2 S)
      · have := MaxS_uniq hv z2 hS
        subst this
        rw [z1, q1.i16, fb_xorI]
        refine ⟨fun _ => ?_, fun e => absurd e (m1_ne (by omega))⟩
        have hb : RM (va_up (va_up I1 16 (nI S2)) 18 0) R1 (decB B S2) := (q1.setI 16 S2).setI 18 0
        exact ⟨_, sJ6_bitCount hx, fun rc hrc => ⟨hrc, hb⟩⟩
    · show c ≤ 36 + 6 * B.1 11 + lt + (k + 1)
      omega
    · show s ≤ 33600 + 47 * B.1 11 + 2 ^ (lt + 1) + 6 * (k + 1)
      omega
  · refine ⟨fun r I R CI CJ CR CG EI ER Eq En V => r = -1 ∧ RC (I, R, CI, CJ, CR, CG, EI, ER, Eq, En, V) B lt, ?_, fun r u' hr => ⟨pQ B (-1), ?_, fun r' v' hq => ⟨hr.1.trans hq.1.symm, B, lt, hv, hg, hr.2, hq.2, by omega, by omega⟩⟩⟩
    · refine ⟨fun I R CI CJ CR CG EI ER Eq En V => RCc I R EI ER En V B lt ∧ ChS B true CI CJ CR CG, sX3_offer hc hv true (fun CI CJ CR CG hch => ⟨hc, hch⟩), fun I R CI CJ CR CG EI ER Eq En V hq => ⟨_, sX0_findBest hv hq.2, fun rc CI2 CJ2 CR2 CG2 hq2 => ?_⟩⟩
      rcases hq2 with ⟨z1, z2⟩ | ⟨z1, S2, z2, z3⟩
      · exact ⟨fun e => absurd z1 e, fun _ => ⟨rfl, hq.1⟩⟩
      · exact absurd ⟨S2, z3⟩ hex
    · refine ⟨_, sX4_search h9 hv true, fun x I1 R1 hq => ?_⟩
      obtain ⟨q1, ⟨z1, z2⟩ | ⟨S2, z1, z2⟩⟩ := hq
      · exact ⟨fun e => absurd z1 e, fun _ => ⟨rfl, q1⟩⟩
      · exact absurd ⟨S2, z2⟩ hex
