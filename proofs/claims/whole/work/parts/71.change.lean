/-! choose, drop, consent -/
def andN (n m : Nat) : Nat := n ^^^ (n &&& m)
theorem andN_tb (n m i : Nat) : (andN n m).testBit i = (n.testBit i && !m.testBit i) := by
  unfold andN
  rw [Nat.testBit_xor, Nat.testBit_and]
  cases n.testBit i <;> cases m.testBit i <;> rfl
theorem tb_andN (n m : Nat) : nI n &&& (nI m ^^^ -1) = nI (andN n m) := by
  apply b_ext
  intro i hi
  rw [b_and, b_xor, bt_nI _ hi, bt_nI _ hi, b_m1 i hi, bt_nI _ hi, andN_tb]
  cases n.testBit i <;> cases m.testBit i <;> rfl
theorem andN_xor {x p : Nat} (h : x.testBit p = true) : x ^^^ 2 ^ p = andN x (2 ^ p) := by
  apply Nat.eq_of_testBit_eq
  intro i
  rw [andN_tb, Nat.testBit_xor, Nat.testBit_two_pow]
  by_cases e : p = i
  · subst e; rw [h]; simp
  · simp [e]
theorem andN_lt {n m k : Nat} (h : n < 2 ^ k) : andN n m < 2 ^ k := Nat.xor_lt_two_pow h (Nat.lt_of_le_of_lt Nat.and_le_left h)
theorem pts_sub {sz : Nat → Nat} {T S : Nat} (h : ∀ i, T.testBit i = true → S.testBit i = true) (n : Nat) : pts sz T n ≤ pts sz S n := fb_sm_le (fun k _ => by
  by_cases e : T.testBit k = true
  · rw [if_pos e, if_pos (h k e)]; exact Nat.le_refl _
  · rw [if_neg e]; exact Nat.zero_le _)
theorem tb_p2 {k : Nat} (hk : k < 31) : 1 ≤ 2 ^ k ∧ 2 ^ k < 2 ^ 31 := ⟨Nat.two_pow_pos k, Nat.pow_lt_pow_right (by decide) hk⟩
def chooseOk (a : Int32) (B : Bk) : Bool := decide (((0 : Nat) : Int) ≤ a.toInt ∧ a.toInt ≤ ((2 ^ B.1 11 - 1 : Nat) : Nat))
def chooseN (a : Int32) (B : Bk) : Bk := if chooseOk a B then setI (setI B 16 a.toNatClampNeg) 18 0 else B
theorem chooseOk_iff {x : Nat} {B : Bk} (hx : x < 2 ^ 31) : chooseOk (nI x) B = decide (x < 2 ^ B.1 11) := by
  have := Nat.two_pow_pos (B.1 11)
  unfold chooseOk
  rw [nI_toInt hx]
  congr 1
  apply propext
  omega
theorem ag_choose : Ag_choose JJ := fun {k c s u v} a hk hj => change hj (fun P => qX3_choose P a u.1 u.2.1 u.2.2.1 u.2.2.2.1 u.2.2.2.2.1 u.2.2.2.2.2.1 u.2.2.2.2.2.2.1 u.2.2.2.2.2.2.2.1 u.2.2.2.2.2.2.2.2.1 u.2.2.2.2.2.2.2.2.2.1 u.2.2.2.2.2.2.2.2.2.2) (fun P => qX4_choose P a v.1 v.2) (fun B => b2i (chooseOk a B)) (chooseN a) (fun B lt hv hg hc => by
    have hn := hv.np
    refine ⟨fun e => ?_, fun e => ?_⟩
    · have h0 : chooseOk a B = false := by
        unfold chooseOk
        rw [fa_lt] at e
        have e : a.toInt < 0 := e
        exact decide_eq_false (by omega)
      unfold chooseN
      show (0 : Int32) = b2i (chooseOk a B) ∧ _
      rw [h0]
      exact ⟨rfl, hc⟩
    · obtain ⟨x, hx, rfl⟩ := nI_of e
      rw [RCc.i4 hc, tb_shr hx (by omega), nI_z (by exact Nat.lt_of_le_of_lt (Nat.div_le_self _ _) hx), Nat.div_eq_zero_iff_lt (Nat.two_pow_pos _)]
      refine ⟨fun e1 => ⟨fun I R CI CJ CR CG EI ER Eq En V => RC (I, R, CI, CJ, CR, CG, EI, ER, Eq, En, V) (chooseN (nI x) B) lt, ?_, fun I R CI CJ CR CG EI ER Eq En V h9 => ⟨?_, h9⟩⟩, fun e1 => ?_⟩
      · refine ⟨_, (show qX1_clear (fun EI ER Eq En => (EI = va_up u.2.2.2.2.2.2.1 3 0 ∧ ER = u.2.2.2.2.2.2.2.1) ∧ Eq = u.2.2.2.2.2.2.2.2.1 ∧ En = u.2.2.2.2.2.2.2.2.2.1) u.2.2.2.2.2.2.1 u.2.2.2.2.2.2.2.1 u.2.2.2.2.2.2.2.2.1 u.2.2.2.2.2.2.2.2.2.1 from ⟨⟨rfl, rfl⟩, rfl, rfl⟩), fun EI ER Eq En hq => ?_⟩
        obtain ⟨⟨rfl, rfl⟩, rfl, rfl⟩ := hq
        unfold chooseN
        rw [chooseOk_iff hx, decide_eq_true e1, if_pos rfl, nI_clamp hx]
        obtain ⟨⟨h1, h2, h3⟩, h4, h10, ⟨h11, h12, h13, h14⟩, h15⟩ := hc
        exact ⟨⟨h1, h2, rfl⟩, h4, h10, ⟨h11, rfl, h13, fun g hg => absurd hg (Nat.not_lt_zero g)⟩, h15⟩
      · show (1 : Int32) = b2i (chooseOk (nI x) B)
        rw [chooseOk_iff hx, decide_eq_true e1]
        rfl
      · unfold chooseN
        show (0 : Int32) = b2i (chooseOk (nI x) B) ∧ _
        rw [chooseOk_iff hx, decide_eq_false e1]
        exact ⟨rfl, hc⟩) (fun B hv hg hm => by
    have hn := hv.np
    have h9 := hm.upI (j := 19) (by decide) 0
    have hp := tb_p2 (k := B.1 11) (by omega)
    unfold qX4_choose
    rw [hm.i11, tb_shl _ (by omega), show (1 : Int32) = nI 1 from rfl, pk_sub hp.1]
    refine ⟨_, sX4_in a 0 (2 ^ B.1 11 - 1) (by decide) (by omega), fun rc hrc => ⟨fun e => ?_, fun e => ?_⟩⟩
    · rw [hrc, b2i_n0] at e
      have h0 : chooseOk a B = true := e
      obtain ⟨x, -, -, ex, ec⟩ := in_get e
      unfold chooseN
      rw [if_pos h0, ec]
      refine ⟨by show _ = b2i (chooseOk a B); rw [h0]; rfl, ?_⟩
      rw [ex]
      exact (h9.setI 16 x).setI 18 0
    · rw [hrc, b2i_0] at e
      have h0 : chooseOk a B = false := e
      unfold chooseN
      rw [h0]
      exact ⟨rfl, h9⟩) (fun B hv hg => by
    unfold chooseN
    by_cases h0 : chooseOk a B = true
    · rw [if_pos h0]
      obtain ⟨x, -, hx, ex, ec⟩ := in_get h0
      rw [ec]
      have := Nat.two_pow_pos (B.1 11)
      obtain ⟨⟨a1, a2, a3, a4, a5, a6, a7, a8, a9⟩, hb, hd, hd5⟩ := hv
      have h8 : x < 2 ^ B.1 11 := by omega
      exact ⟨⟨⟨a1, a2, a3, a4, a5, a6, a7, h8, Nat.zero_le _⟩, hb, hd, fun g hg => absurd hg (Nat.not_lt_zero g)⟩, fun g hg => absurd hg (Nat.not_lt_zero g), rfl⟩
    · rw [if_neg h0]
      exact ⟨hv, hg, rfl⟩)
/-! drop -/
def dropOk (a : Int32) (B : Bk) : Bool := isIn a (B.1 11) && decide (pageB B a.toNatClampNeg < B.1 18)
def dropN (a : Int32) (B : Bk) : Bk := if dropOk a B then setI (setR B 17 (pageB B a.toNatClampNeg) (andN (B.2 17 (pageB B a.toNatClampNeg)) (2 ^ a.toNatClampNeg))) 16 (andN (B.1 16) (2 ^ a.toNatClampNeg)) else B
theorem pageI_m1 {B : Bk} (hv : InvB B) (p : Nat) : pageI B p = -1 ↔ ¬ pageB B p < B.1 18 := by
  have hpm := hv.pm
  unfold pageI
  by_cases h : pageB B p < B.1 18
  · rw [if_pos h]
    refine ⟨fun e => absurd e ?_, fun e => absurd h e⟩
    rw [fa_eq, nI_toInt (by omega)]
    show ¬ ((pageB B p : Nat) : Int) = -1
    omega
  · rw [if_neg h]
    exact ⟨fun _ => h, fun _ => rfl⟩
theorem pageB_tb {B : Bk} {p : Nat} (h : pageB B p < B.1 18) : (B.2 17 (pageB B p)).testBit p = true := fa_first_yes _ _ h
theorem isIn_no {a : Int32} {n : Nat} (hn : n < 2 ^ 31) (h : a < 0 ∨ nI n ≤ a) : isIn a n = false := by
  unfold isIn
  rw [fa_lt, fa_le, nI_toInt hn] at h
  have h : a.toInt < 0 ∨ (n : Int) ≤ a.toInt := h
  exact decide_eq_false (by omega)
theorem ag_drop : Ag_drop JJ := fun {k c s u v} a hk hj => change hj (fun P => qX3_drop P a u.1 u.2.1 u.2.2.1 u.2.2.2.1 u.2.2.2.2.1 u.2.2.2.2.2.1 u.2.2.2.2.2.2.1 u.2.2.2.2.2.2.2.1 u.2.2.2.2.2.2.2.2.1 u.2.2.2.2.2.2.2.2.2.1 u.2.2.2.2.2.2.2.2.2.2) (fun P => qX4_drop P a v.1 v.2) (fun B => b2i (dropOk a B)) (dropN a) (fun B lt hv hg hc => by
    have hn := hv.np
    have hpm := hv.pm
    refine ⟨by rw [RCc.i4 hc, RCc.vn hc], by rw [RCc.vn hc]; exact hn, fun e => ?_, fun p hp ep => ?_⟩
    · have h0 : dropOk a B = false := by
        unfold dropOk
        rw [isIn_no (by omega) (by rw [RCc.i4 hc] at e; exact e)]; rfl
      unfold dropN
      show (0 : Int32) = b2i (dropOk a B) ∧ _
      rw [h0]
      exact ⟨rfl, hc⟩
    · rw [RCc.vn hc] at hp
      subst ep
      have hin : isIn (nI p) (B.1 11) = true := by rw [isIn_nI (by omega)]; exact decide_eq_true hp
      have hok : dropOk (nI p) B = decide (pageB B p < B.1 18) := by
        unfold dropOk
        rw [hin, nI_clamp (by omega)]; rfl
      unfold dropN
      rw [hok, nI_clamp (by omega)]
      refine ⟨fun r EI ER Eq En => r = b2i (decide (pageB B p < B.1 18)) ∧ EI = u.2.2.2.2.2.2.1 ∧ ER = (if pageB B p < B.1 18 then va_up u.2.2.2.2.2.2.2.1 2 (upd (u.2.2.2.2.2.2.2.1 2) (pageB B p) (nI (andN (B.2 17 (pageB B p)) (2 ^ p)))) else u.2.2.2.2.2.2.2.1) ∧ Eq = u.2.2.2.2.2.2.2.2.1 ∧ En = u.2.2.2.2.2.2.2.2.2.1, ?_, fun r EI ER Eq En hq => ?_⟩
      · refine ⟨_, sX1_pageOf hc hv (by omega), fun rc hrc => ?_⟩
        subst hrc
        rw [pageI_m1 hv]
        refine ⟨fun e => ?_, fun e => ?_⟩
        · rw [decide_eq_false e, if_neg e]
          exact ⟨rfl, rfl, rfl, rfl, rfl⟩
        · have e : pageB B p < B.1 18 := Decidable.not_not.mp e
          have ep : pageI B p = nI (pageB B p) := by unfold pageI; rw [if_pos e]
          rw [ep, RCc.e3 hc, nI_ltI (by omega) (by omega), nI_clamp (by omega), tb_shl _ (by omega)]
          refine ⟨fun _ => ⟨vp_in_nI (by omega) (by decide), ?_⟩, fun e2 => absurd e e2⟩
          rw [decide_eq_true e, if_pos e]
          refine ⟨rfl, rfl, ?_, rfl, rfl⟩
          have e9 : u.2.2.2.2.2.2.2.1 2 (pageB B p) = nI (B.2 17 (pageB B p)) := RCc.pg hc e
          rw [e9, tb_andN]
      · obtain ⟨rfl, rfl, rfl, rfl, rfl⟩ := hq
        refine ⟨fun e => ?_, fun e => ?_⟩
        · rw [b2i_n0] at e
          have e1 := of_decide_eq_true e
          rw [e, if_pos rfl, if_pos e1, tb_shl _ (by omega), RCc.i6 hc, tb_andN]
          refine ⟨rfl, ?_⟩
          obtain ⟨⟨h1, h2, h3⟩, h4, h10, ⟨h11, h12, h13, h14⟩, h15⟩ := hc
          refine ⟨⟨h1, h2, rfl⟩, h4, h10, ⟨h11, h12, h13, fun g hg => ?_⟩, h15⟩
          show upd (u.2.2.2.2.2.2.2.1 2) (pageB B p) (nI (andN (B.2 17 (pageB B p)) (2 ^ p))) g = nI (va_up (B.2 17) (pageB B p) (andN (B.2 17 (pageB B p)) (2 ^ p)) g)
          by_cases e2 : g = pageB B p
          · subst e2; rw [pk_us, vu_eq]
          · rw [pk_un e2, vu_ne e2]; exact h14 g hg
        · rw [b2i_0] at e
          have e1 := of_decide_eq_false e
          rw [e, if_neg e1]
          exact ⟨rfl, hc⟩) (fun B hv hg hm => by
    have hn := hv.np
    have hpm := hv.pm
    have h9 := hm.upI (j := 19) (by decide) 0
    refine ⟨_, sX4_isPicture h9 hv a, fun rc hrc => ⟨fun e => ?_, fun e => ?_⟩⟩
    · rw [hrc, b2i_0] at e
      have h0 : dropOk a B = false := by unfold dropOk; rw [e]; rfl
      unfold dropN
      show pQ _ (b2i (dropOk a B)) _ _ _
      rw [h0]
      exact ⟨rfl, h9⟩
    · rw [hrc, b2i_n0] at e
      obtain ⟨p, hp, rfl⟩ := isIn_get e
      have hok : dropOk (nI p) B = decide (pageB B p < B.1 18) := by
        unfold dropOk
        rw [e, nI_clamp (by omega)]; rfl
      unfold dropN
      rw [hok, nI_clamp (by omega)]
      refine ⟨_, sX4_pageOf h9 hv (by omega), fun rc2 hrc2 => ?_⟩
      subst hrc2
      rw [pageI_m1 hv]
      refine ⟨fun e1 => ?_, fun e1 => ?_⟩
      · have e1 : pageB B p < B.1 18 := Decidable.not_not.mp e1
        refine ⟨_, sX4_pageOf h9 hv (by omega), fun rc3 hrc3 => ?_⟩
        have ep : pageI B p = nI (pageB B p) := by unfold pageI; rw [if_pos e1]
        rw [hrc3, ep, nI_clamp (by omega), tb_shl _ (by omega), hm.i16, tb_andN, hm.r17, fb_xorI, andN_xor (pageB_tb e1), decide_eq_true e1]
        exact ⟨vp_in_nI (by omega) (by decide), rfl, (h9.setR 17 (pageB B p) (andN (B.2 17 (pageB B p)) (2 ^ p))).setI 16 (andN (B.1 16) (2 ^ p))⟩
      · rw [decide_eq_false e1]
        exact ⟨rfl, h9⟩) (fun B hv hg => by
    unfold dropN
    by_cases h0 : dropOk a B = true
    · rw [if_pos h0]
      obtain ⟨⟨a1, a2, a3, a4, a5, a6, a7, a8, a9⟩, hb, hd, hd5⟩ := hv
      refine ⟨⟨⟨a1, a2, a3, a4, a5, a6, a7, andN_lt a8, a9⟩, hb, hd, fun g h9 => ?_⟩, fun g h9 => ?_, rfl⟩
      · show va_up (B.2 17) (pageB B a.toNatClampNeg) (andN (B.2 17 (pageB B a.toNatClampNeg)) (2 ^ a.toNatClampNeg)) g < 2 ^ B.1 11
        rw [vu_if]
        split
        · exact andN_lt (hd5 _ (by rename_i e; rw [← e]; exact h9))
        · exact hd5 g h9
      · show pts (B.2 5) (va_up (B.2 17) (pageB B a.toNatClampNeg) (andN (B.2 17 (pageB B a.toNatClampNeg)) (2 ^ a.toNatClampNeg)) g) 14 ≤ 12
        rw [vu_if]
        split
        · rename_i e
          rw [← e]
          refine Nat.le_trans (pts_sub (fun i hi => ?_) 14) (hg g h9)
          rw [andN_tb, Bool.and_eq_true] at hi
          exact hi.1
        · exact hg g h9
    · rw [if_neg h0]
      exact ⟨hv, hg, rfl⟩)
/-! consent -/
section
variable {I : Nat → Int32} {R : Nat → Nat → Int32} {CI : Nat → Int32} {CJ : Nat → Int64} {CR : Nat → Nat → Int32} {CG : Nat → Nat → Int64} {EI : Nat → Int32} {ER : Nat → Nat → Int32} {Eq En : Nat} {B : Bk}
theorem lX3_consent (hv : InvB B) (h4 : I 4 = nI (B.1 11)) (hcn : ∀ c, R 1 c = nI (B.2 1 c)) {x p1 p2 : Int32} {post : Int32 → (Nat → Int32) → (Nat → Nat → Int32) → (Nat → Int32) → (Nat → Int64) → (Nat → Nat → Int32) → (Nat → Nat → Int64) → (Nat → Int32) → (Nat → Nat → Int32) → Nat → Nat → vS → Prop} (hpost : ∀ V, pvN V = B.1 11 → (∀ p, p < B.1 11 → PicR (pvI V p) (pvR V p) B p) → post x I R CI CJ CR CG EI ER Eq En V) :
    ∀ n k, k + n = B.1 11 → ∀ V : vS, pvN V = B.1 11 → (∀ p, p < k → PicR (pvI V p) (pvR V p) B p) → (∀ p, k ≤ p → p < B.1 11 → PicF (pvI V p) (pvR V p) B p) → qX3_consent_37 post p1 p2 x (nI k) I R CI CJ CR CG EI ER Eq En V
  | 0, k, e, V, hV, h1, h2 => by
    have hn := hv.np
    refine kX3_consent_37 ⟨fun _ => hpost V hV (fun p hp => h1 p (by omega)), fun c => ?_⟩
    rw [h4, nI_leI (by omega) (by omega)] at c
    omega
  | n + 1, k, e, V, hV, h1, h2 => by
    have hn := hv.np
    refine kX3_consent_37 ⟨fun c => ?_, fun c => ⟨by rw [h4, hV], by rw [hV]; exact hn, fun c2 => ?_, fun j hj ej => ⟨_, sX2_look hv hcn (h2 j ?_ (by omega)), fun Ip Rp hq => ?_⟩⟩⟩
    · rw [h4, nI_leI (by omega) (by omega)] at c
      omega
    · rcases c2 with c2 | c2
      · exact absurd c2 (nI_pos (by omega))
      · exact absurd c2 c
    · rw [nI_eq (by omega) (by omega)] at ej
      omega
    · rw [nI_eq (by omega) (by omega)] at ej
      subst ej
      rw [nI_1]
      refine lX3_consent hv h4 hcn hpost n (k + 1) (by omega) _ hV (fun p hp => ?_) (fun p hp hp2 => ?_)
      · show PicR (va_up (pvI V) k Ip p) (va_up (pvR V) k Rp p) B p
        by_cases ep : p = k
        · subst ep; rw [vu_eq, vu_eq]; exact hq
        · rw [vu_ne ep, vu_ne ep]; exact h1 p (by omega)
      · show PicF (va_up (pvI V) k Ip p) (va_up (pvR V) k Rp p) B p
        rw [vu_ne (by omega), vu_ne (by omega)]
        exact h2 p (by omega) hp2
end
def consOk (a b : Int32) (B : Bk) : Bool := isIn a (B.1 2) && decide (((0 : Nat) : Int) ≤ b.toInt ∧ b.toInt ≤ (7 : Nat))
def consI (a b : Int32) (B : Bk) : Int32 := if consOk a b B then nI (B.2 1 a.toNatClampNeg) else -1
def consN (a b : Int32) (B : Bk) : Bk := if consOk a b B then setR B 1 a.toNatClampNeg b.toNatClampNeg else B
theorem inv_cons {a b : Int32} {B : Bk} (hv : InvB B) : InvB (consN a b B) := by
  unfold consN
  by_cases h0 : consOk a b B = true
  · rw [if_pos h0]
    unfold consOk at h0
    rw [Bool.and_eq_true] at h0
    obtain ⟨y, -, hy, ey, ec⟩ := in_get h0.2
    rw [ec]
    obtain ⟨ha, ⟨b1, b2, b3⟩, hd, hd5⟩ := hv
    exact ⟨ha, ⟨b1, vu_le b2 hy, b3⟩, hd, hd5⟩
  · rw [if_neg h0]
    exact hv
theorem ag_consent : Ag_consent JJ := fun {k c s u v} a b hk hj => change hj (fun P => qX3_consent P a b u.1 u.2.1 u.2.2.1 u.2.2.2.1 u.2.2.2.2.1 u.2.2.2.2.2.1 u.2.2.2.2.2.2.1 u.2.2.2.2.2.2.2.1 u.2.2.2.2.2.2.2.2.1 u.2.2.2.2.2.2.2.2.2.1 u.2.2.2.2.2.2.2.2.2.2) (fun P => qX4_consent P a b v.1 v.2) (consI a b) (consN a b) (fun B lt hv hg hc => by
    have hn := hv.nc
    have hv2 := inv_cons (a := a) (b := b) hv
    refine ⟨_, sX3_isChild hc hv a, fun rc hrc => ⟨fun e => ?_, fun e => ⟨_, sX3_within b 0 7 (by decide) (by decide), fun rc2 hrc2 => ⟨fun e2 => ?_, fun e2 => ?_⟩⟩⟩⟩
    · rw [hrc, b2i_0] at e
      have h0 : consOk a b B = false := by unfold consOk; rw [e]; rfl
      unfold consI consN
      rw [h0]
      exact ⟨rfl, hc⟩
    · rw [hrc, b2i_n0] at e
      rw [hrc2, b2i_n0] at e2
      have h0 : consOk a b B = true := by unfold consOk; rw [e, e2]; rfl
      obtain ⟨x, hx, rfl⟩ := isIn_get e
      obtain ⟨y, -, hy, ey, ec⟩ := in_get e2
      unfold consI
      unfold consN at hv2 ⊢
      rw [if_pos h0, nI_clamp (by omega), ec] at hv2
      rw [if_pos h0, if_pos h0, nI_clamp (by omega), ec]
      refine ⟨vp_in_nI (by omega) (by decide), fun x3 e3 => ?_⟩
      have e3 : x3 = nI (B.2 1 x) := e3.trans (RCc.r1 hc x)
      subst e3
      obtain ⟨⟨h1, h2, h3⟩, ⟨h4, h5, h6⟩, ⟨h10, h11⟩, h12, h13⟩ := hc
      have hr : ∀ c, (va_up u.2.1 1 (upd (u.2.1 1) x b)) 1 c = nI ((setR B 1 x y).2 1 c) := fun c => by
        show upd (u.2.1 1) x b c = nI (va_up (B.2 1) x y c)
        by_cases e9 : c = x
        · subst e9; rw [pk_us, vu_eq]; exact ey
        · rw [pk_un e9, vu_ne e9]; exact h5 c
      exact lX3_consent (B := setR B 1 x y) hv2 h2 hr (fun V hV hp => ⟨rfl, ⟨h1, h2, h3⟩, ⟨h4, hr, h6⟩, ⟨hV, hp⟩, h12, h13⟩) (B.1 11) 0 (Nat.zero_add _) _ h10 (fun p hp => absurd hp (Nat.not_lt_zero p)) (fun p _ hp => (h11 p hp).1)
    · rw [hrc2, b2i_0] at e2
      have h0 : consOk a b B = false := by unfold consOk; rw [e2, Bool.and_false]
      unfold consI consN
      rw [h0]
      exact ⟨rfl, hc⟩) (fun B hv hg hm => by
    have hn := hv.nc
    have h9 := hm.upI (j := 19) (by decide) 0
    refine ⟨_, sX4_isChild h9 hv a, fun rc hrc => ⟨fun e => ?_, fun e => ⟨_, sX4_in b 0 7 (by decide) (by decide), fun rc2 hrc2 => ⟨fun e2 => ?_, fun e2 => ?_⟩⟩⟩⟩
    · rw [hrc, b2i_0] at e
      have h0 : consOk a b B = false := by unfold consOk; rw [e]; rfl
      unfold consI consN
      rw [h0]
      exact ⟨rfl, h9⟩
    · rw [hrc, b2i_n0] at e
      rw [hrc2, b2i_n0] at e2
      have h0 : consOk a b B = true := by unfold consOk; rw [e, e2]; rfl
      obtain ⟨x, hx, rfl⟩ := isIn_get e
      obtain ⟨y, -, hy, ey, ec⟩ := in_get e2
      unfold consI consN
      rw [if_pos h0, if_pos h0, nI_clamp (by omega), ec, ey]
      exact ⟨vp_in_nI (by omega) (by decide), fun x3 e3 => ⟨e3.trans (hm.r1 x), h9.setR 1 x y⟩⟩
    · rw [hrc2, b2i_0] at e2
      have h0 : consOk a b B = false := by unfold consOk; rw [e2, Bool.and_false]
      unfold consI consN
      rw [h0]
      exact ⟨rfl, h9⟩) (fun B hv hg => by
    refine ⟨inv_cons hv, ?_, ?_⟩
    · unfold consN
      split
      · exact hg
      · exact hg
    · unfold consN
      split
      · rfl
      · rfl)
