/-! the search of the class -/
def St (B : Bk) (nr : Bool) (o : Option Nat) (I : Nat → Int32) (J : Nat → Int64) : Prop := match o with
  | none => I 11 = 0
  | some S => I 11 = 1 ∧ I 12 = nI S ∧ J 13 = lZ (mkS B nr S (B.1 11))
/-- what a search among the sets of D makes of what was found -/
def Gain (B : Bk) (nr : Bool) (D : Nat → Prop) (o o' : Option Nat) : Prop := (o' = o ∨ ∃ T, o' = some T ∧ D T ∧ fits B T) ∧ (∀ S, o = some S → ∃ S', o' = some S' ∧ mkS B nr S (B.1 11) ≤ mkS B nr S' (B.1 11)) ∧ ∀ T, D T → fits B T → ∃ S', o' = some S' ∧ mkS B nr T (B.1 11) ≤ mkS B nr S' (B.1 11)
def SP (B : Bk) (nr : Bool) (D : Nat → Prop) (o : Option Nat) (I0 : Nat → Int32) (J0 : Nat → Int64) (R0 : Nat → Nat → Int32) (G0 : Nat → Nat → Int64) : (Nat → Int32) → (Nat → Int64) → (Nat → Nat → Int32) → (Nat → Nat → Int64) → Prop := fun I J R G => R = R0 ∧ G = G0 ∧ (∀ j, j ≠ 11 → j ≠ 12 → I j = I0 j) ∧ (∀ j, j ≠ 13 → J j = J0 j) ∧ ∃ o', St B nr o' I J ∧ Gain B nr D o o'
section
variable {B : Bk} {nr : Bool}
theorem Gain.comp {D D1 D2 : Nat → Prop} {o o1 o2 : Option Nat} (h1 : Gain B nr D1 o o1) (h2 : Gain B nr D2 o1 o2) (hD : ∀ T, D T ↔ (D1 T ∨ D2 T)) : Gain B nr D o o2 := by
  obtain ⟨a1, a2, a3⟩ := h1
  obtain ⟨b1, b2, b3⟩ := h2
  refine ⟨?_, fun S hS => ?_, fun T hT hf => ?_⟩
  · rcases b1 with e | ⟨T, e, t1, t2⟩
    · rcases a1 with e1 | ⟨T, e1, t1, t2⟩
      · exact Or.inl (e.trans e1)
      · exact Or.inr ⟨T, e.trans e1, (hD T).mpr (Or.inl t1), t2⟩
    · exact Or.inr ⟨T, e, (hD T).mpr (Or.inr t1), t2⟩
  · obtain ⟨S1, e1, l1⟩ := a2 S hS
    obtain ⟨S2, e2, l2⟩ := b2 S1 e1
    exact ⟨S2, e2, Int.le_trans l1 l2⟩
  · rcases (hD T).mp hT with z | z
    · obtain ⟨S1, e1, l1⟩ := a3 T z hf
      obtain ⟨S2, e2, l2⟩ := b2 S1 e1
      exact ⟨S2, e2, Int.le_trans l1 l2⟩
    · exact b3 T z hf
theorem Gain.same {D : Nat → Prop} {o : Option Nat} (h : ∀ T, D T → fits B T → ∃ S', o = some S' ∧ mkS B nr T (B.1 11) ≤ mkS B nr S' (B.1 11)) : Gain B nr D o o := ⟨Or.inl rfl, fun S hS => ⟨S, hS, Int.le_refl _⟩, h⟩
theorem si_le {f g : Nat → Int} : ∀ {n : Nat}, (∀ k, k < n → f k ≤ g k) → fb_si f n ≤ fb_si g n
  | 0, _ => Int.le_refl _
  | n + 1, h => by
    rw [fb_si_succ, fb_si_succ]
    have h1 := si_le (f := f) (g := g) (n := n) (fun k hk => h k (by omega))
    have h2 := h n (by omega)
    omega
theorem mark_le {i S T : Nat} (h : Sc B i S T) : mkS B nr T (B.1 11) ≤ mkS B nr S (B.1 11) + mkS B nr (wiS B nr i) (B.1 11) := by
  obtain ⟨s1, s2, s3, -⟩ := Sc_lo h
  have hd := lo_wi_dis nr s1
  unfold mkS
  rw [← fb_si_add]
  refine si_le (fun k hk => ?_)
  show (if T.testBit k then mk B nr k else 0) ≤ (if S.testBit k then mk B nr k else 0) + (if (wiS B nr i).testBit k then mk B nr k else 0)
  cases hT : T.testBit k
  · have hS : S.testBit k = false := by
      cases e : S.testBit k
      · rfl
      · rw [s2 k e] at hT; cases hT
    rw [hS]
    cases hw : (wiS B nr i).testBit k
    · simp
    · rw [wiS_tb, Bool.and_eq_true, Bool.and_eq_true] at hw
      have := of_decide_eq_true hw.2.2
      simp
      omega
  · cases hS : S.testBit k
    · have h3 := s3 k hT
      rw [Nat.testBit_or, hS, Bool.false_or] at h3
      cases hw : (wiS B nr i).testBit k
      · rw [hiS_tb, Bool.and_eq_true] at h3
        rw [wiS_tb, h3.1, h3.2, Bool.true_and, Bool.true_and, decide_eq_false_iff_not] at hw
        simp
        omega
      · simp
    · rw [hd k hS]
      simp
theorem wish_sc {i S : Nat} (hS : subN S (loS B i)) : Sc B i S (S ||| wiS B nr i) := by
  refine ⟨and_sub (fun k hk => ?_), ?_⟩
  · rw [Nat.testBit_or, Bool.or_eq_true] at hk
    rcases hk with z | z
    · exact lo_good i k (hS k z)
    · exact hi_good i k (wi_sub nr i k z)
  · apply Nat.eq_of_testBit_eq
    intro k
    rw [Nat.testBit_and, Nat.testBit_or]
    cases hk : S.testBit k
    · rw [Bool.false_or]
      cases hl : (loS B i).testBit k
      · rw [Bool.and_false]
      · rw [Bool.and_true]
        cases hw : (wiS B nr i).testBit k
        · rfl
        · have := lo_wi_dis (B := B) nr (i := i) (S := loS B i) (fun j hj => hj) k hl
          rw [hw] at this
          cases this
    · rw [hS k hk]; rfl
variable {R : Nat → Nat → Int32} {G : Nat → Nat → Int64}
theorem sX0_search (hv : InvB B) : ∀ (d i S : Nat) (o : Option Nat) (I : Nat → Int32) (J : Nat → Int64), gN B < d + i → i ≤ gN B → subN S (loS B i) → ChS B nr I J R G → St B nr o I J → qX0_searchFrom d (SP B nr (Sc B i S) o I J R G) (nI i) (nI S) (lN (cL B S)) (lZ (mkS B nr S (B.1 11))) I J R G
  | 0, i, S, o, I, J, hd, hi, _, _, _ => by omega
  | d + 1, i, S, o, I, J, hd, hi, hS, hC, hSt => by
    have hm := gN_le hv
    have b1 := mS_bd hv nr S
    have b2 := mS_bd hv nr (wiS B nr i)
    obtain ⟨c6, c7, c8, c9⟩ := hC.2 i (Nat.zero_le _) hi
    have stay : (∀ T, Sc B i S T → fits B T → ∃ S', o = some S' ∧ mkS B nr T (B.1 11) ≤ mkS B nr S' (B.1 11)) → SP B nr (Sc B i S) o I J R G I J R G := fun h => ⟨rfl, rfl, fun _ _ _ => rfl, fun _ _ => rfl, o, hSt, Gain.same h⟩
    have go : (∀ S0, o = some S0 → mkS B nr S0 (B.1 11) ≤ mkS B nr S (B.1 11) + mkS B nr (wiS B nr i) (B.1 11)) → qX0_searchFrom_32 (qX0_searchFrom d) (SP B nr (Sc B i S) o I J R G) (nI i) (nI S) (lN (cL B S)) (lZ (mkS B nr S (B.1 11))) I J R G := fun hbet => by
      have hdw := lo_wi_dis (B := B) nr hS
      have branch : ¬ fits B (S ||| wiS B nr i) → qX0_searchFrom_101 (qX0_searchFrom d) (SP B nr (Sc B i S) o I J R G) (nI i) (nI S) (lN (cL B S)) (lZ (mkS B nr S (B.1 11))) I J R G := fun hnf => by
        refine kX0_searchFrom_101 ?_
        rw [hC.i2, nI_ltI (by omega) (by omega)]
        refine ⟨fun c => ⟨vp_in_nI (by omega) (by decide), ?_⟩, fun c => stay (fun T hT hf => ?_)⟩
        · obtain ⟨p, hp, hg, ei⟩ := idx_at (B := B) (i := i) c
          subst ei
          obtain ⟨l1, l2, l3⟩ := lo_next hp hg hS
          obtain ⟨r3, g4, g5⟩ := hC.1.2 p hp hg
          have hn := hv.np
          have hb := mk_bd hv nr (p := p) (by omega)
          have ck : (nI (idx B p)).toNatClampNeg = idx B p := nI_clamp (by omega)
          have em : mkS B nr (S ||| 2 ^ p) (B.1 11) = mkS B nr S (B.1 11) + mk B nr p := by rw [mS_or nr l3, mS_p2 nr p hp]
          have dsp : ∀ T, Sc B (idx B p) S T ↔ (Sc B (idx B p + 1) S T ∨ Sc B (idx B p + 1) (S ||| 2 ^ p) T) := fun T => by
            rw [← scB_iff, ← scB_iff, ← scB_iff, (scB_split hp hg hS T).1, Bool.or_eq_true]
          have dsp2 : ∀ T, Sc B (idx B p) S T ↔ (Sc B (idx B p + 1) (S ||| 2 ^ p) T ∨ Sc B (idx B p + 1) S T) := fun T => (dsp T).trans or_comm
          have keep : ∀ {I1 : Nat → Int32} {J1 : Nat → Int64}, (∀ j, j ≠ 11 → j ≠ 12 → I1 j = I j) → (∀ j, j ≠ 13 → J1 j = J j) → ChS B nr I1 J1 R G := fun h1 h2 => hC.of (h1 0 (by decide) (by decide)) (h1 1 (by decide) (by decide)) (h1 2 (by decide) (by decide)) (h2 10 (by decide))
          have with1 : ∀ (o1 : Option Nat) (I1 : Nat → Int32) (J1 : Nat → Int64), ChS B nr I1 J1 R G → St B nr o1 I1 J1 → qX0_searchFrom d (SP B nr (Sc B (idx B p + 1) (S ||| 2 ^ p)) o1 I1 J1 R G) (nI (idx B p) + 1) (nI S ||| R 3 (nI (idx B p)).toNatClampNeg) (lN (cL B S) + G 4 (nI (idx B p)).toNatClampNeg) (lZ (mkS B nr S (B.1 11)) + G 5 (nI (idx B p)).toNatClampNeg) I1 J1 R G := fun o1 I1 J1 h1 h2 => by
            rw [ck, r3, g4, g5, nI_1, tb_or, lN_add, ← cL_or l3, lZ_add, ← em]
            exact sX0_search hv d _ _ o1 I1 J1 (by omega) (by omega) l2 h1 h2
          have wout1 : ∀ (o1 : Option Nat) (I1 : Nat → Int32) (J1 : Nat → Int64), ChS B nr I1 J1 R G → St B nr o1 I1 J1 → qX0_searchFrom d (SP B nr (Sc B (idx B p + 1) S) o1 I1 J1 R G) (nI (idx B p) + 1) (nI S) (lN (cL B S)) (lZ (mkS B nr S (B.1 11))) I1 J1 R G := fun o1 I1 J1 h1 h2 => by
            rw [nI_1]
            exact sX0_search hv d _ _ o1 I1 J1 (by omega) (by omega) l1 h1 h2
          rw [ck, g5, lg_cmp_le, show (0 : Int64) = lZ 0 from rfl, lZ_le (by omega) (by omega) (by omega) (by omega)]
          refine ⟨fun _ => kX0_searchFrom_126 ⟨fun e => absurd rfl e, fun _ => ⟨_, wout1 o I J hC hSt, fun I1 J1 R1 G1 hq => ?_⟩⟩, fun _ => kX0_searchFrom_126 ⟨fun _ => ?_, fun e => absurd e (by decide)⟩⟩
          · obtain ⟨q1, q2, q3, q4, o1, q5, q6⟩ := hq
            rw [q1, q2]
            refine kX0_searchFrom_144 ⟨vp_in_nI (by omega) (by decide), _, with1 o1 I1 J1 (keep q3 q4) q5, fun I2 J2 R2 G2 hq2 => ⟨fun _ => ?_, fun e => absurd rfl e⟩⟩
            obtain ⟨w1, w2, w3, w4, o2, w5, w6⟩ := hq2
            exact ⟨w1, w2, fun j h1 h2 => (w3 j h1 h2).trans (q3 j h1 h2), fun j h1 => (w4 j h1).trans (q4 j h1), o2, w5, q6.comp w6 dsp⟩
          · refine kX0_searchFrom_144 ⟨vp_in_nI (by omega) (by decide), _, with1 o I J hC hSt, fun I1 J1 R1 G1 hq => ⟨fun e => absurd e (by decide), fun _ => ?_⟩⟩
            obtain ⟨q1, q2, q3, q4, o1, q5, q6⟩ := hq
            rw [q1, q2]
            refine ⟨_, wout1 o1 I1 J1 (keep q3 q4) q5, fun I2 J2 R2 G2 hq2 => ?_⟩
            obtain ⟨w1, w2, w3, w4, o2, w5, w6⟩ := hq2
            exact ⟨w1, w2, fun j h1 h2 => (w3 j h1 h2).trans (q3 j h1 h2), fun j h1 => (w4 j h1).trans (q4 j h1), o2, w5, q6.comp w6 dsp2⟩
        · exfalso
          have ei : i = gN B := by omega
          subst ei
          rw [wi_full, Nat.or_zero] at hnf
          rw [Sc_end hT] at hf
          exact hnf hf
      refine kX0_searchFrom_32 ⟨_, sLost hv hC hi hS, fun rc hrc => ⟨fun c => ⟨vp_in_nI (by omega) (by decide), fun x7 e7 => ?_⟩, fun c => stay (fun T hT hf => ?_)⟩⟩
      · rw [nI_clamp (by omega), c7, lN_add, ← cL_or hdw] at e7
        rw [e7]
        refine ⟨_, sAbove hv hC _, fun rc5 hrc5 => ⟨fun c5 => branch (fun hf => ?_), fun c5 => ⟨_, sBelow hv hC _, fun rc6 hrc6 => ⟨fun c6' => branch (fun hf => ?_), fun c6' => ?_⟩⟩⟩⟩
        · rw [hrc5, b2i_n0] at c5
          have := ((fits_iff hv).mp hf).1
          rw [c5] at this; cases this
        · rw [hrc6, b2i_n0] at c6'
          have := ((fits_iff hv).mp hf).2
          rw [c6'] at this; cases this
        · rw [hrc5, b2i_0] at c5
          rw [hrc6, b2i_0] at c6'
          have hf : fits B (S ||| wiS B nr i) := (fits_iff hv).mpr ⟨c5, c6'⟩
          have em := mS_or (B := B) nr hdw (B.1 11)
          rw [nI_clamp (by omega), c8, c9, tb_or, lZ_add, ← em]
          refine ⟨rfl, rfl, fun j h1 h2 => by rw [vu_ne h2, vu_ne h1], fun j h1 => vu_ne h1, some (S ||| wiS B nr i), ⟨?_, vu_eq, vu_eq⟩, Or.inr ⟨_, rfl, wish_sc hS, hf⟩, fun S0 hS0 => ⟨_, rfl, by rw [em]; exact hbet S0 hS0⟩, fun T hT _ => ⟨_, rfl, by rw [em]; exact mark_le hT⟩⟩
          rw [vu_ne (by decide), vu_eq]
      · rw [hrc, b2i_n0, Bool.or_eq_true] at c
        exact absurd hf (lost_no hv hT c)
    refine ⟨fun c => ?_, fun _ => ⟨fun c => go (fun S0 hS0 => ?_), fun c => ⟨vp_in_nI (by omega) (by decide), ?_⟩⟩⟩
    · rw [hC.i2, nI_ltI (by omega) (by omega)] at c
      omega
    · subst hS0
      have := hSt.1
      rw [this] at c
      cases c
    · match o, hSt with
      | none, hSt => exact absurd hSt c
      | some S0, hSt =>
        have b0 := mS_bd hv nr S0
        rw [nI_clamp (by omega), c9, hSt.2.2, lZ_add, lg_cmp_le, lZ_le (by omega) (by omega) (by omega) (by omega)]
        refine ⟨fun g => stay (fun T hT _ => ⟨S0, rfl, ?_⟩), fun g => go (fun S1 hS1 => ?_)⟩
        · have := mark_le (nr := nr) hT
          omega
        · cases hS1
          omega
/-- what is best of all -/
def MaxS (B : Bk) (nr : Bool) (S : Nat) : Prop := S &&& goodS B = S ∧ fits B S ∧ ∀ T, T &&& goodS B = T → fits B T → mkS B nr T (B.1 11) ≤ mkS B nr S (B.1 11)
theorem Sc_0 {T : Nat} : Sc B 0 0 T ↔ T &&& goodS B = T := by
  unfold Sc
  rw [lo_0, Nat.and_zero]
  exact ⟨fun h => h.1, fun h => ⟨h, rfl⟩⟩
theorem sX0_findBest (hv : InvB B) {I : Nat → Int32} {J : Nat → Int64} (hC : ChS B nr I J R G) : qX0_findBest (fun r I' J' R' G' => (r = 0 ∧ ∀ S, ¬ MaxS B nr S) ∨ (r = 1 ∧ ∃ S, I' 12 = nI S ∧ MaxS B nr S)) I J R G := by
  have hm := gN_le hv
  have e0 : (0 : Int64) = lN (cL B 0) := by rw [cL_0]; rfl
  have e1 : (0 : Int64) = lZ (mkS B nr 0 (B.1 11)) := by rw [mS_0]; rfl
  have key := sX0_search (nr := nr) hv 20 0 0 none (va_up I 11 0) J (by omega) (Nat.zero_le _) (sub_0 _) (hC.of rfl rfl rfl rfl) (show St B nr none (va_up I 11 0) J from vu_eq)
  rw [← e0, ← e1] at key
  refine ⟨_, key, fun I1 J1 R1 G1 hq => ?_⟩
  obtain ⟨q1, q2, q3, q4, o, q5, q6⟩ := hq
  obtain ⟨g1, -, g3⟩ := q6
  match o, q5, g1, g3 with
  | none, q5, g1, g3 =>
    have q5 : I1 11 = 0 := q5
    rw [q5]
    refine ⟨rfl, Or.inl ⟨rfl, fun S hS => ?_⟩⟩
    obtain ⟨S', e, -⟩ := g3 S (Sc_0.mpr hS.1) hS.2.1
    cases e
  | some S, q5, g1, g3 =>
    have q5' : I1 11 = 1 := q5.1
    rw [q5']
    refine ⟨rfl, Or.inr ⟨rfl, S, q5.2.1, ?_⟩⟩
    rcases g1 with e | ⟨T, e, t1, t2⟩
    · cases e
    · cases e
      refine ⟨Sc_0.mp t1, t2, fun T hT hf => ?_⟩
      obtain ⟨S', e, l⟩ := g3 T (Sc_0.mpr hT) hf
      cases e
      exact l
end
