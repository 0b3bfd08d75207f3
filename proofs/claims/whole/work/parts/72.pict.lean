/-! picture -/
theorem tb_ltp {S n i : Nat} (h : S < 2 ^ n) (hi : S.testBit i = true) : i < n := by
  rcases Nat.lt_or_ge i n with g | g
  · exact g
  · rw [Nat.testBit_lt_two_pow (Nat.lt_of_lt_of_le h (Nat.pow_le_pow_right (by decide) g))] at hi
    cases hi
theorem pts_cong {sz sz' : Nat → Nat} {T : Nat} (n : Nat) (h : ∀ i, T.testBit i = true → sz i = sz' i) : pts sz T n = pts sz' T n := fb_sm_cong (fun k _ => by
  by_cases e : T.testBit k = true
  · rw [if_pos e, if_pos e]; exact h k e
  · rw [if_neg e, if_neg e])
theorem sub_tb {T S i : Nat} (h : T &&& S = T) (hi : T.testBit i = true) : S.testBit i = true := by
  rw [← h, Nat.testBit_and, Bool.and_eq_true] at hi
  exact hi.2
theorem xor_tb_sub {T S i : Nat} (h : T &&& S = T) (hi : (S ^^^ T).testBit i = true) : S.testBit i = true := by
  rw [Nat.testBit_xor] at hi
  cases hs : S.testBit i
  · rw [hs] at hi
    have ht : T.testBit i = true := by simpa using hi
    rw [sub_tb h ht] at hs
    cases hs
  · rfl
theorem Pag_cong {sz sz' : Nat → Nat} : ∀ b S l, (∀ i, S.testBit i = true → sz i = sz' i) → Pag sz b S l → Pag sz' b S l
  | 0, _, _, _, h => h
  | b + 1, S, l, hs, h => by
    obtain ⟨T, h1, h2, h3, h4, l', h5⟩ := h
    exact ⟨T, h1, h2, by rw [← pts_cong 14 (fun i hi => hs i (sub_tb h2 hi))]; exact h3, h4, l', Pag_cong b _ l' (fun i hi => hs i (xor_tb_sub h2 hi)) h5⟩
theorem PkL_cong {sz sz' : Nat → Nat} {S v : Nat} (hs : ∀ i, S.testBit i = true → sz i = sz' i) (h : PkL sz S v) : PkL sz' S v := by
  obtain ⟨b, l, h1, h2, h3, h4, h5⟩ := h
  exact ⟨b, l, h1, h2, h3, Pag_cong b S l hs h4, fun b' l' h9 => h5 b' l' (Pag_cong b' S l' (fun i hi => (hs i hi).symm) h9)⟩
def picOk (a b d : Int32) (B : Bk) : Bool := decide (((0 : Nat) : Int) ≤ a.toInt ∧ a.toInt ≤ (2 : Nat)) && (decide (((0 : Nat) : Int) ≤ b.toInt ∧ b.toInt ≤ (100 : Nat)) && (decide (((1 : Nat) : Int) ≤ d.toInt ∧ d.toInt ≤ (12 : Nat)) && decide (B.1 11 < 14)))
def picB (x y z : Nat) (B : Bk) : Bk := setI (setR (setR (setR (setR B 3 (B.1 11) x) 4 (B.1 11) y) 5 (B.1 11) z) 6 (B.1 11) 0) 11 (B.1 11 + 1)
theorem inv_pic {x y z : Nat} {B : Bk} (hv : InvB B) (hg : PgI B) (hx : x ≤ 2) (hy : y ≤ 100) (hz1 : 1 ≤ z) (hz : z ≤ 12) (hn : B.1 11 < 14) : InvB (picB x y z B) ∧ PgI (picB x y z B) := by
  obtain ⟨⟨a1, a2, a3, a4, a5, a6, a7, a8, a9⟩, ⟨b1, b2, b3, b4, b5, b6, b7⟩, ⟨d1, d2, d3, d4⟩, d5⟩ := hv
  have hp : 2 ^ B.1 11 ≤ 2 ^ (B.1 11 + 1) := Nat.pow_le_pow_right (by decide) (by omega)
  refine ⟨⟨⟨a1, hn, a3, a4, a5, a6, a7, Nat.lt_of_lt_of_le a8 hp, a9⟩, ⟨b1, b2, vu_le b3 hx, vu_le b4 hy, vu_le b5 hz, vu_le b6 (Nat.zero_le _), b7⟩, ⟨fun p h9 => ?_, fun p h9 => ?_, fun p f h9 => ?_, fun p f g h8 h9 e => ?_⟩, fun g h9 => Nat.lt_of_lt_of_le (d5 g h9) hp⟩, fun g h9 => ?_⟩
  · have h9 : p < B.1 11 + 1 := h9
    show 1 ≤ va_up (B.2 5) (B.1 11) z p
    rw [vu_if]
    split
    · exact hz1
    · exact d1 p (by omega)
  · have h9 : B.1 11 + 1 ≤ p := h9
    show va_up (B.2 6) (B.1 11) 0 p = 0
    rw [vu_ne (by omega)]
    exact d2 p (by omega)
  · have h9 : f < va_up (B.2 6) (B.1 11) 0 p := h9
    rw [vu_if] at h9
    split at h9
    · omega
    · exact d3 p f h9
  · have h8 : f < va_up (B.2 6) (B.1 11) 0 p := h8
    have h9 : g < va_up (B.2 6) (B.1 11) 0 p := h9
    rw [vu_if] at h8 h9
    split at h8
    · omega
    · rename_i en
      rw [if_neg en] at h9
      exact d4 p f g h8 h9 e
  · have h9 : g < B.1 18 := h9
    have h8 := hg g h9
    show pts (va_up (B.2 5) (B.1 11) z) (B.2 17 g) 14 ≤ 12
    rw [pts_cong (sz' := B.2 5) 14 (fun i hi => vu_ne (by have := tb_ltp (d5 g h9) hi; omega))]
    exact h8
theorem ag_picture : Ag_picture JJ := fun {k c s u v} a b d hk hj => by
  obtain ⟨B, lt, hv, hg, hc, hm, h1, h2⟩ := hj
  have hn := hv.np
  have hlt : lt ≤ B.1 11 := hc.2.2.2.2.1
  have hpw : 2 ^ (lt + 1) ≤ 2 ^ 15 := Nat.pow_le_pow_right (by decide) (by omega)
  have h9 := hm.upI (j := 19) (by decide) 0
  by_cases h0 : picOk a b d B = true
  · unfold picOk at h0
    rw [Bool.and_eq_true, Bool.and_eq_true, Bool.and_eq_true] at h0
    obtain ⟨o1, o2, o3, o4⟩ := h0
    have o4 := of_decide_eq_true o4
    obtain ⟨x, -, hx, ex, -⟩ := in_get o1
    obtain ⟨y, -, hy, ey, -⟩ := in_get o2
    obtain ⟨z, hz1, hz, ez, -⟩ := in_get o3
    obtain ⟨i1, i2⟩ := inv_pic hv hg hx hy hz1 hz o4
    refine ⟨6, 47, fun r I R CI CJ CR CG EI ER Eq En V => r = nI (B.1 11) ∧ RC (I, R, CI, CJ, CR, CG, EI, ER, Eq, En, V) (picB x y z B) lt, by omega, by omega, ?_, fun r u' hr => ⟨pQ (picB x y z B) (nI (B.1 11)), ?_, fun r' v' hq => ⟨hr.1.trans hq.1.symm, picB x y z B, lt, i1, i2, hr.2, hq.2, ?_, ?_⟩⟩⟩
    · refine ⟨_, sX3_within a 0 2 (by decide) (by decide), fun rc hrc => ⟨fun e => ?_, fun _ => ⟨_, sX3_within b 0 100 (by decide) (by decide), fun rc2 hrc2 => ⟨fun e => ?_, fun _ => ⟨_, sX3_within d 1 12 (by decide) (by decide), fun rc3 hrc3 => ⟨fun e => ?_, fun _ => ⟨fun _ => ⟨by rw [RCc.i4 hc, RCc.vn hc], by rw [RCc.vn hc]; exact o4, ⟨by omega, by omega⟩, fun aq uq => ⟨fun EI ER Eq En => EI = va_up u.2.2.2.2.2.2.1 1 (nI (B.1 11 + 1)) ∧ ER = va_up u.2.2.2.2.2.2.2.1 0 (upd (u.2.2.2.2.2.2.2.1 0) (B.1 11) (nI z)) ∧ Eq = u.2.2.2.2.2.2.2.2.1 ∧ En = u.2.2.2.2.2.2.2.2.2.1, ?_, fun EI ER Eq En hq => ?_⟩⟩, fun e => ?_⟩⟩⟩⟩⟩⟩⟩
      · rw [hrc, b2i_0, o1] at e; cases e
      · rw [hrc2, b2i_0, o2] at e; cases e
      · rw [hrc3, b2i_0, o3] at e; cases e
      · unfold qX1_hearOf
        rw [RCc.e1 hc, show (14 : Int32) = nI 14 from rfl, nI_leI (by omega) (by omega), nI_1, nI_clamp (by omega), ez]
        exact ⟨fun e => absurd e (by omega), fun _ => ⟨vp_in_nI (by omega) (by decide), rfl, rfl, rfl, rfl⟩⟩
      · obtain ⟨rfl, rfl, rfl, rfl⟩ := hq
        rw [RCc.i4 hc, nI_1]
        refine ⟨rfl, ?_⟩
        obtain ⟨⟨g1, g2, g3⟩, g4, ⟨g10, g11⟩, ⟨g12, g13, g14, g15⟩, g16, g17, g18, g19⟩ := hc
        refine ⟨⟨g1, rfl, g3⟩, g4, ⟨?_, fun p hp => ?_⟩, ⟨rfl, g13, fun p hp => ?_, g15⟩, ?_, g17, g18, fun S hS => ?_⟩
        · show pvN u.2.2.2.2.2.2.2.2.2.2 + 1 = B.1 11 + 1
          rw [g10]
        · have hp : p < B.1 11 + 1 := hp
          show PicR (va_up (pvI u.2.2.2.2.2.2.2.2.2.2) (pvN u.2.2.2.2.2.2.2.2.2.2) (va_up (va_up (va_up (fun _ => 0) 0 a) 1 b) 2 d) p) (va_up (pvR u.2.2.2.2.2.2.2.2.2.2) (pvN u.2.2.2.2.2.2.2.2.2.2) (fun _ _ => 0) p) (picB x y z B) p
          rw [g10]
          by_cases ep : p = B.1 11
          · subst ep
            rw [vu_eq, vu_eq]
            have e3 : (picB x y z B).2 3 (B.1 11) = x := vu_eq
            have e4 : (picB x y z B).2 4 (B.1 11) = y := vu_eq
            have e5 : (picB x y z B).2 5 (B.1 11) = z := vu_eq
            have e6 : (picB x y z B).2 6 (B.1 11) = 0 := vu_eq
            have ean : anyM (picB x y z B) (B.1 11) = false := by unfold anyM; rw [e6]; rfl
            refine ⟨⟨by rw [e3]; exact ex, by rw [e4]; exact ey, by rw [e5]; exact ez, by rw [e6]; rfl, fun f hf => by rw [e6] at hf; exact absurd hf (Nat.not_lt_zero f)⟩, ?_, ?_, fun ha => ?_⟩
            · unfold allow
              rw [e6]; rfl
            · unfold seenB goodB
              rw [ean]; rfl
            · rw [ean] at ha; cases ha
          · rw [vu_ne ep, vu_ne ep]
            have hs : sameP B (picB x y z B) p := ⟨⟨vu_ne ep, vu_ne ep, vu_ne ep, vu_ne ep⟩, fun f hf => ⟨⟨rfl, rfl, rfl, rfl⟩, by
              show (B.2 1 (B.2 7 (8 * p + f))).testBit (va_up (B.2 3) (B.1 11) x p) = _
              rw [vu_ne ep]
              rfl⟩⟩
            exact hs.pic (g11 p (by omega))
        · have hp : p < B.1 11 + 1 := hp
          show upd (u.2.2.2.2.2.2.2.1 0) (B.1 11) (nI z) p = nI (va_up (B.2 5) (B.1 11) z p)
          by_cases ep : p = B.1 11
          · subst ep; rw [pk_us, vu_eq]
          · rw [pk_un ep, vu_ne ep]; exact g14 p (by omega)
        · show lt ≤ B.1 11 + 1
          omega
        · obtain ⟨w, hw1, hw2⟩ := g19 S hS
          refine ⟨w, hw1, PkL_cong (fun i hi => ?_) hw2⟩
          have := tb_ltp hS hi
          exact (vu_ne (by omega)).symm
      · exact absurd (by rw [RCc.i4 hc]; exact nI_lt o4 (by decide)) e
    · refine ⟨_, sX4_in a 0 2 (by decide) (by decide), fun rc hrc => ⟨fun e => ?_, fun _ => ⟨_, sX4_in b 0 100 (by decide) (by decide), fun rc2 hrc2 => ⟨fun e => ?_, fun _ => ⟨_, sX4_in d 1 12 (by decide) (by decide), fun rc3 hrc3 => ⟨fun e => ?_, fun _ => ⟨fun _ => ?_, fun e => ?_⟩⟩⟩⟩⟩⟩⟩
      · rw [hrc, b2i_0, o1] at e; cases e
      · rw [hrc2, b2i_0, o2] at e; cases e
      · rw [hrc3, b2i_0, o3] at e; cases e
      · rw [hm.i11, nI_1, nI_pred, nI_clamp (by omega), ex, ey, ez]
        exact ⟨vp_in_nI (by omega) (by decide), rfl, ((((h9.setR 3 (B.1 11) x).setR 4 (B.1 11) y).setR 5 (B.1 11) z).setR 6 (B.1 11) 0).setI 11 (B.1 11 + 1)⟩
      · rw [hm.i11, show (14 : Int32) = nI 14 from rfl, nI_eq (by omega) (by omega)] at e
        omega
    · show c + 6 ≤ 36 + 6 * (B.1 11 + 1) + lt + (k + 1)
      omega
    · show s + 47 ≤ 33600 + 47 * (B.1 11 + 1) + 2 ^ (lt + 1) + 6 * (k + 1)
      omega
  · refine ⟨0, 0, fun r I R CI CJ CR CG EI ER Eq En V => r = -1 ∧ RC (I, R, CI, CJ, CR, CG, EI, ER, Eq, En, V) B lt, by omega, by omega, ?_, fun r u' hr => ⟨pQ B (-1), ?_, fun r' v' hq => ⟨hr.1.trans hq.1.symm, B, lt, hv, hg, hr.2, hq.2, by omega, by omega⟩⟩⟩
    · refine ⟨_, sX3_within a 0 2 (by decide) (by decide), fun rc hrc => ⟨fun e => ⟨rfl, hc⟩, fun e1 => ⟨_, sX3_within b 0 100 (by decide) (by decide), fun rc2 hrc2 => ⟨fun e => ⟨rfl, hc⟩, fun e2 => ⟨_, sX3_within d 1 12 (by decide) (by decide), fun rc3 hrc3 => ⟨fun e => ⟨rfl, hc⟩, fun e3 => ⟨fun e4 => ?_, fun e => ⟨rfl, hc⟩⟩⟩⟩⟩⟩⟩⟩
      rw [hrc, b2i_n0] at e1
      rw [hrc2, b2i_n0] at e2
      rw [hrc3, b2i_n0] at e3
      rw [RCc.i4 hc, show (14 : Int32) = nI 14 from rfl, nI_ltI (by omega) (by omega)] at e4
      exact absurd (by unfold picOk; rw [e1, e2, e3, decide_eq_true e4]; rfl) h0
    · refine ⟨_, sX4_in a 0 2 (by decide) (by decide), fun rc hrc => ⟨fun e => ⟨rfl, h9⟩, fun e1 => ⟨_, sX4_in b 0 100 (by decide) (by decide), fun rc2 hrc2 => ⟨fun e => ⟨rfl, h9⟩, fun e2 => ⟨_, sX4_in d 1 12 (by decide) (by decide), fun rc3 hrc3 => ⟨fun e => ⟨rfl, h9⟩, fun e3 => ⟨fun e4 => ?_, fun e => ⟨rfl, h9⟩⟩⟩⟩⟩⟩⟩⟩
      rw [hrc, b2i_n0] at e1
      rw [hrc2, b2i_n0] at e2
      rw [hrc3, b2i_n0] at e3
      rw [hm.i11, show (14 : Int32) = nI 14 from rfl, nI_eq (by omega) (by omega)] at e4
      exact absurd (by unfold picOk; rw [e1, e2, e3, decide_eq_true (by omega)]; rfl) h0
/-! face -/
def isThere (B : Bk) (p : Nat) (c : Int32) : Nat → Bool := fun f => decide (nI (B.2 7 (8 * p + f)) = c)
def holds (B : Bk) (p : Nat) (c : Int32) : Bool := decide (B.2 6 p < 8) && !anyF (isThere B p c) (B.2 6 p)
def faceOk (a1 a2 a3 a4 a5 : Int32) (B : Bk) : Bool := isIn a1 (B.1 11) && (isIn a2 (B.1 2) && (decide (((0 : Nat) : Int) ≤ a3.toInt ∧ a3.toInt ≤ (99 : Nat)) && (decide (((0 : Nat) : Int) ≤ a4.toInt ∧ a4.toInt ≤ (99 : Nat)) && (decide (((0 : Nat) : Int) ≤ a5.toInt ∧ a5.toInt ≤ (20 : Nat)) && holds B a1.toNatClampNeg a2))))
def faceB (p c x y r : Nat) (B : Bk) : Bk := setR (setR (setR (setR (setR B 7 (8 * p + B.2 6 p) c) 8 (8 * p + B.2 6 p) x) 9 (8 * p + B.2 6 p) y) 10 (8 * p + B.2 6 p) r) 6 p (B.2 6 p + 1)
def faceN (a1 a2 a3 a4 a5 : Int32) (B : Bk) : Bk := if faceOk a1 a2 a3 a4 a5 B then faceB a1.toNatClampNeg a2.toNatClampNeg a3.toNatClampNeg a4.toNatClampNeg a5.toNatClampNeg B else B
def faceI (a1 a2 a3 a4 a5 : Int32) (B : Bk) : Int32 := if faceOk a1 a2 a3 a4 a5 B then nI (B.2 6 a1.toNatClampNeg + 1) else -1
theorem inv_face {p c x y r : Nat} {B : Bk} (hv : InvB B) (hp : p < B.1 11) (hc : c < B.1 2) (hx : x ≤ 99) (hy : y ≤ 99) (hr : r ≤ 20) (hh : holds B p (nI c) = true) : InvB (faceB p c x y r B) := by
  have hnf := hv.nf
  have hn16 := hv.nc
  obtain ⟨ha, ⟨b1, b2, b3, b4, b5, b6, b7, b8, b9, b10⟩, ⟨d1, d2, d3, d4⟩, d5⟩ := hv
  unfold holds at hh
  rw [Bool.and_eq_true] at hh
  have h8 := of_decide_eq_true hh.1
  have hno : ∀ f, f < B.2 6 p → B.2 7 (8 * p + f) ≠ c := fun f hf e => by
    have h9 : anyF (isThere B p (nI c)) (B.2 6 p) = true := (anyF_iff _ _).mpr ⟨f, hf, by unfold isThere; rw [e]; exact decide_eq_true rfl⟩
    rw [h9] at hh
    exact absurd hh.2 (by decide)
  have far : ∀ q f, q ≠ p → f < B.2 6 q → 8 * q + f ≠ 8 * p + B.2 6 p := fun q f hq hf => by
    have := hnf q
    omega
  refine ⟨ha, ⟨b1, b2, b3, b4, b5, vu_le b6 h8, vu_lt b7 (by omega), vu_le b8 hx, vu_le b9 hy, vu_le b10 hr⟩, ⟨d1, fun q hq => ?_, fun q f hf => ?_, fun q f g hf hg e => ?_⟩, d5⟩
  · show va_up (B.2 6) p (B.2 6 p + 1) q = 0
    have hq : B.1 11 ≤ q := hq
    rw [vu_ne (by omega)]
    exact d2 q hq
  · have hf : f < va_up (B.2 6) p (B.2 6 p + 1) q := hf
    show va_up (B.2 7) (8 * p + B.2 6 p) c (8 * q + f) < B.1 2
    by_cases e : q = p
    · subst e
      rw [vu_eq] at hf
      rw [vu_if]
      split
      · exact hc
      · exact d3 q f (by omega)
    · rw [vu_ne e] at hf
      rw [vu_ne (far q f e hf)]
      exact d3 q f hf
  · have hf : f < va_up (B.2 6) p (B.2 6 p + 1) q := hf
    have hg : g < va_up (B.2 6) p (B.2 6 p + 1) q := hg
    have e : va_up (B.2 7) (8 * p + B.2 6 p) c (8 * q + f) = va_up (B.2 7) (8 * p + B.2 6 p) c (8 * q + g) := e
    by_cases eq : q = p
    · subst eq
      rw [vu_eq] at hf hg
      by_cases ef : f = B.2 6 q
      · by_cases eg : g = B.2 6 q
        · omega
        · rw [ef, vu_eq, vu_ne (by omega)] at e
          exact absurd e.symm (hno g (by omega))
      · by_cases eg : g = B.2 6 q
        · rw [eg, vu_eq, vu_ne (by omega)] at e
          exact absurd e (hno f (by omega))
        · rw [vu_ne (by omega), vu_ne (by omega)] at e
          exact d4 q f g (by omega) (by omega) e
    · rw [vu_ne eq] at hf hg
      rw [vu_ne (far q f eq hf), vu_ne (far q g eq hg)] at e
      exact d4 q f g hf hg e
section
variable {I : Nat → Int32} {R : Nat → Nat → Int32} {B : Bk} {p : Nat}
theorem lX2_canHold (hv : InvB B) (h : PicF I R B p) (c : Int32) : ∀ n k, k + n = B.2 6 p → anyF (isThere B p c) k = false → qX2_canHold_2 (fun r => r = b2i (holds B p c)) c I R (nI k)
  | 0, k, e, hk => by
    have hnf := hv.nf p
    have e : k = B.2 6 p := by omega
    subst e
    refine kX2_canHold_2 ⟨fun _ => ?_, fun c => ?_⟩
    · rw [h.2.2.2.1, show (8 : Int32) = nI 8 from rfl, nI_leI (by omega) (by omega)]
      unfold holds
      rw [hk]
      refine ⟨fun c => ?_, fun c => ?_⟩
      · show (0 : Int32) = _
        rw [decide_eq_false (by omega)]; rfl
      · show (1 : Int32) = _
        rw [decide_eq_true (by omega)]; rfl
    · rw [h.2.2.2.1, nI_leI (by omega) (by omega)] at c
      omega
  | n + 1, k, e, hk => by
    have hnf := hv.nf p
    refine kX2_canHold_2 ⟨fun c => ?_, fun _ => ⟨vp_in_nI (by omega) (by decide), ?_⟩⟩
    · rw [h.2.2.2.1, nI_leI (by omega) (by omega)] at c
      omega
    · rw [nI_clamp (by omega), (h.2.2.2.2 k (by omega)).1]
      refine ⟨fun c1 => ?_, fun c1 => ?_⟩
      · rw [nI_1]
        refine lX2_canHold hv h c n (k + 1) (by omega) ?_
        rw [anyF, hk]
        unfold isThere
        exact decide_eq_false c1
      · have h9 : anyF (isThere B p c) (B.2 6 p) = true := (anyF_iff _ _).mpr ⟨k, by omega, decide_eq_true c1⟩
        show (0 : Int32) = _
        unfold holds
        rw [h9, Bool.not_true, Bool.and_false]
        rfl
theorem lX4_face (hv : InvB B) (h : RM I R B) (hp : p < 14) (h8 : B.2 6 p < 8) {c x y r : Nat} {post : Int32 → (Nat → Int32) → (Nat → Nat → Int32) → Prop} (h1 : holds B p (nI c) = true → post (nI (B.2 6 p + 1)) I (va_up (va_up (va_up (va_up (va_up R 7 (upd (R 7) (8 * p + B.2 6 p) (nI c))) 8 (upd (R 8) (8 * p + B.2 6 p) (nI x))) 9 (upd (R 9) (8 * p + B.2 6 p) (nI y))) 10 (upd (R 10) (8 * p + B.2 6 p) (nI r))) 6 (upd (R 6) p (nI (B.2 6 p + 1))))) (h2 : holds B p (nI c) = false → post (-1) I R) :
    ∀ n k, k + n = B.2 6 p → anyF (isThere B p (nI c)) k = false → qX4_face_69 post (nI p) (nI c) (nI x) (nI y) (nI r) (nI k) I R
  | 0, k, e, hk => by
    have hnf := hv.nf p
    have e : k = B.2 6 p := by omega
    subst e
    refine kX4_face_69 ⟨vp_in_nI hp (by decide), fun _ x6 e6 => ?_, fun c => ?_⟩
    · rw [nI_clamp (by omega), h.r6, at8] at e6
      subst e6
      rw [nI_clamp (by omega), nI_clamp (by omega), h.r6, nI_1]
      refine ⟨in112 hp h8, fun v ev => ?_⟩
      rw [pk_us] at ev
      subst ev
      exact h1 (by unfold holds; rw [hk, decide_eq_true h8]; rfl)
    · rw [nI_clamp (by omega), h.r6, nI_leI (by omega) (by omega)] at c
      omega
  | n + 1, k, e, hk => by
    have hnf := hv.nf p
    refine kX4_face_69 ⟨vp_in_nI hp (by decide), fun c => ?_, fun _ => ?_⟩
    · rw [nI_clamp (by omega), h.r6, nI_leI (by omega) (by omega)] at c
      omega
    · rw [at8, nI_clamp (by omega), h.r7]
      refine ⟨in112 hp (by omega), fun c1 => ?_, fun c1 => ?_⟩
      · rw [nI_1]
        refine lX4_face hv h hp h8 h1 h2 n (k + 1) (by omega) ?_
        rw [anyF, hk]
        unfold isThere
        exact decide_eq_false c1
      · have h9 : anyF (isThere B p (nI c)) (B.2 6 p) = true := (anyF_iff _ _).mpr ⟨k, by omega, decide_eq_true c1⟩
        refine h2 ?_
        unfold holds
        rw [h9, Bool.not_true, Bool.and_false]
theorem sX2_add (hv : InvB B) (h : PicF I R B p) (h8 : B.2 6 p < 8) (c x y r : Nat) : qX2_add (fun I' R' => PicF I' R' (faceB p c x y r B) p) (nI c) (nI x) (nI y) (nI r) I R := by
  have hnf := hv.nf p
  unfold qX2_add
  rw [h.2.2.2.1, show (8 : Int32) = nI 8 from rfl, nI_leI (by omega) (by omega), nI_1, nI_clamp (by omega)]
  refine ⟨fun c1 => absurd h8 (by omega), fun _ => ⟨vp_in_nI h8 (by decide), h.1, h.2.1, h.2.2.1, ?_, fun f hf => ?_⟩⟩
  · show nI (B.2 6 p + 1) = nI (va_up (B.2 6) p (B.2 6 p + 1) p)
    rw [vu_eq]
  · have hf : f < va_up (B.2 6) p (B.2 6 p + 1) p := hf
    rw [vu_eq] at hf
    show upd (R 4) (B.2 6 p) (nI c) f = nI (va_up (B.2 7) (8 * p + B.2 6 p) c (8 * p + f)) ∧ upd (R 5) (B.2 6 p) (nI x) f = nI (va_up (B.2 8) (8 * p + B.2 6 p) x (8 * p + f)) ∧ upd (R 6) (B.2 6 p) (nI y) f = nI (va_up (B.2 9) (8 * p + B.2 6 p) y (8 * p + f)) ∧ upd (R 7) (B.2 6 p) (nI r) f = nI (va_up (B.2 10) (8 * p + B.2 6 p) r (8 * p + f))
    by_cases e : f = B.2 6 p
    · subst e
      rw [pk_us, pk_us, pk_us, pk_us, vu_eq, vu_eq, vu_eq, vu_eq]
      exact ⟨rfl, rfl, rfl, rfl⟩
    · rw [pk_un e, pk_un e, pk_un e, pk_un e, vu_ne (by omega), vu_ne (by omega), vu_ne (by omega), vu_ne (by omega)]
      exact h.2.2.2.2 f (by omega)
end
theorem ag_face : Ag_face JJ := fun {k c s u v} a1 a2 a3 a4 a5 hk hj => change hj (fun P => qX3_face P a1 a2 a3 a4 a5 u.1 u.2.1 u.2.2.1 u.2.2.2.1 u.2.2.2.2.1 u.2.2.2.2.2.1 u.2.2.2.2.2.2.1 u.2.2.2.2.2.2.2.1 u.2.2.2.2.2.2.2.2.1 u.2.2.2.2.2.2.2.2.2.1 u.2.2.2.2.2.2.2.2.2.2) (fun P => qX4_face P a1 a2 a3 a4 a5 v.1 v.2) (faceI a1 a2 a3 a4 a5) (faceN a1 a2 a3 a4 a5) (fun B lt hv hg hc => by
    have hn := hv.np
    have hnc := hv.nc
    have no : faceOk a1 a2 a3 a4 a5 B = false → (-1 : Int32) = faceI a1 a2 a3 a4 a5 B ∧ RC u (faceN a1 a2 a3 a4 a5 B) lt := fun h0 => by
      unfold faceI faceN
      rw [h0]
      exact ⟨rfl, hc⟩
    refine ⟨by rw [RCc.i4 hc, RCc.vn hc], by rw [RCc.vn hc]; exact hn, fun e => no ?_, fun p hp ep => ?_⟩
    · unfold faceOk
      rw [isIn_no (by omega) (by rw [RCc.i4 hc] at e; exact e)]; rfl
    · rw [RCc.vn hc] at hp
      have hin : isIn a1 (B.1 11) = true := by rw [ep, isIn_nI (by omega)]; exact decide_eq_true hp
      have ec1 : a1.toNatClampNeg = p := by rw [ep]; exact nI_clamp (by omega)
      refine ⟨_, sX3_isChild hc hv a2, fun rc2 hrc2 => ⟨fun e => no ?_, fun e2 => ⟨_, sX3_within a3 0 99 (by decide) (by decide), fun rc3 hrc3 => ⟨fun e => no ?_, fun e3 => ⟨_, sX3_within a4 0 99 (by decide) (by decide), fun rc4 hrc4 => ⟨fun e => no ?_, fun e4 => ⟨_, sX3_within a5 0 20 (by decide) (by decide), fun rc5 hrc5 => ⟨fun e => no ?_, fun e5 => ⟨_, lX2_canHold hv (RCc.pic hc hp).1 a2 _ 0 (Nat.zero_add _) rfl, fun rc6 hrc6 => ⟨fun e6 => ?_, fun e => no ?_⟩⟩⟩⟩⟩⟩⟩⟩⟩⟩
      · rw [hrc2, b2i_0] at e
        unfold faceOk; rw [e, Bool.false_and, Bool.and_false]
      · rw [hrc3, b2i_0] at e
        unfold faceOk; rw [e, Bool.false_and, Bool.and_false, Bool.and_false]
      · rw [hrc4, b2i_0] at e
        unfold faceOk; rw [e, Bool.false_and, Bool.and_false, Bool.and_false, Bool.and_false]
      · rw [hrc5, b2i_0] at e
        unfold faceOk; rw [e, Bool.false_and, Bool.and_false, Bool.and_false, Bool.and_false, Bool.and_false]
      · rw [hrc2, b2i_n0] at e2
        rw [hrc3, b2i_n0] at e3
        rw [hrc4, b2i_n0] at e4
        rw [hrc5, b2i_n0] at e5
        rw [hrc6, b2i_n0] at e6
        have h0 : faceOk a1 a2 a3 a4 a5 B = true := by unfold faceOk; rw [hin, e2, e3, e4, e5, ec1, e6]; rfl
        obtain ⟨c, hcc, ec⟩ := isIn_get e2
        obtain ⟨x, -, hx, ex, xc⟩ := in_get e3
        obtain ⟨y, -, hy, ey, yc⟩ := in_get e4
        obtain ⟨r, -, hr, er, zc⟩ := in_get e5
        subst ec
        unfold faceI faceN
        rw [if_pos h0, if_pos h0, ec1, xc, yc, zc, nI_clamp (by omega), ex, ey, er]
        have i1 := inv_face (x := x) (y := y) (r := r) hv hp hcc hx hy hr e6
        have h8 : B.2 6 p < 8 := by
          unfold holds at e6
          rw [Bool.and_eq_true] at e6
          exact of_decide_eq_true e6.1
        refine ⟨_, sX2_add hv (RCc.pic hc hp).1 h8 c x y r, fun Ip Rp hq => ?_⟩
        have w1 : pvI (pvW u.2.2.2.2.2.2.2.2.2.2 p Ip Rp) p = Ip := vu_eq
        have w2 : pvR (pvW u.2.2.2.2.2.2.2.2.2.2 p Ip Rp) p = Rp := vu_eq
        rw [w1, w2]
        refine ⟨_, sX2_look (B := faceB p c x y r B) i1 (fun c => RCc.r1 hc c) hq, fun Ip2 Rp2 hq2 => ?_⟩
        have w3 : pvI (pvW (pvW u.2.2.2.2.2.2.2.2.2.2 p Ip Rp) p Ip2 Rp2) p = Ip2 := vu_eq
        refine ⟨?_, ?_⟩
        · rw [w3, hq2.1.2.2.2.1]
          show nI (va_up (B.2 6) p (B.2 6 p + 1) p) = _
          rw [vu_eq]
        · have hnf := hv.nf
          obtain ⟨g1, g4, ⟨g10, g11⟩, g12, g13⟩ := hc
          refine ⟨g1, g4, ⟨g10, fun q hq9 => ?_⟩, g12, g13⟩
          show PicR (va_up (va_up (pvI u.2.2.2.2.2.2.2.2.2.2) p Ip) p Ip2 q) (va_up (va_up (pvR u.2.2.2.2.2.2.2.2.2.2) p Rp) p Rp2 q) (faceB p c x y r B) q
          by_cases eq : q = p
          · subst eq; rw [vu_eq, vu_eq]; exact hq2
          · rw [vu_ne eq, vu_ne eq, vu_ne eq, vu_ne eq]
            have far : ∀ f, f < B.2 6 q → 8 * q + f ≠ 8 * p + B.2 6 p := fun f hf => by
              have := hnf q
              omega
            have hs : sameP B (faceB p c x y r B) q := ⟨⟨rfl, rfl, rfl, vu_ne eq⟩, fun f hf => ⟨⟨vu_ne (far f hf), vu_ne (far f hf), vu_ne (far f hf), vu_ne (far f hf)⟩, by
              show (B.2 1 (va_up (B.2 7) (8 * p + B.2 6 p) c (8 * q + f))).testBit (B.2 3 q) = _
              rw [vu_ne (far f hf)]
              rfl⟩⟩
            exact hs.pic (g11 q hq9)
      · rw [hrc6, b2i_0] at e
        unfold faceOk; rw [ec1, e, Bool.and_false, Bool.and_false, Bool.and_false, Bool.and_false, Bool.and_false]) (fun B hv hg hm => by
    have hn := hv.np
    have hnc := hv.nc
    have h9 := hm.upI (j := 19) (by decide) 0
    have no : faceOk a1 a2 a3 a4 a5 B = false → pQ (faceN a1 a2 a3 a4 a5 B) (faceI a1 a2 a3 a4 a5 B) (-1) (va_up v.1 19 0) v.2 := fun h0 => by
      unfold faceI faceN
      rw [h0]
      exact ⟨rfl, h9⟩
    refine ⟨_, sX4_isPicture h9 hv a1, fun rc hrc => ⟨fun e => no ?_, fun e1 => ⟨_, sX4_isChild h9 hv a2, fun rc2 hrc2 => ⟨fun e => no ?_, fun e2 => ⟨_, sX4_in a3 0 99 (by decide) (by decide), fun rc3 hrc3 => ⟨fun e => no ?_, fun e3 => ⟨_, sX4_in a4 0 99 (by decide) (by decide), fun rc4 hrc4 => ⟨fun e => no ?_, fun e4 => ⟨_, sX4_in a5 0 20 (by decide) (by decide), fun rc5 hrc5 => ⟨fun e => no ?_, fun e5 => ?_⟩⟩⟩⟩⟩⟩⟩⟩⟩⟩
    · rw [hrc, b2i_0] at e
      unfold faceOk; rw [e]; rfl
    · rw [hrc2, b2i_0] at e
      unfold faceOk; rw [e, Bool.false_and, Bool.and_false]
    · rw [hrc3, b2i_0] at e
      unfold faceOk; rw [e, Bool.false_and, Bool.and_false, Bool.and_false]
    · rw [hrc4, b2i_0] at e
      unfold faceOk; rw [e, Bool.false_and, Bool.and_false, Bool.and_false, Bool.and_false]
    · rw [hrc5, b2i_0] at e
      unfold faceOk; rw [e, Bool.false_and, Bool.and_false, Bool.and_false, Bool.and_false, Bool.and_false]
    · rw [hrc, b2i_n0] at e1
      rw [hrc2, b2i_n0] at e2
      rw [hrc3, b2i_n0] at e3
      rw [hrc4, b2i_n0] at e4
      rw [hrc5, b2i_n0] at e5
      obtain ⟨p, hp, ep⟩ := isIn_get e1
      obtain ⟨c, hcc, ec⟩ := isIn_get e2
      obtain ⟨x, -, hx, ex, xc⟩ := in_get e3
      obtain ⟨y, -, hy, ey, yc⟩ := in_get e4
      obtain ⟨r, -, hr, er, zc⟩ := in_get e5
      have ec1 : a1.toNatClampNeg = p := by rw [ep]; exact nI_clamp (by omega)
      have ec2 : a2.toNatClampNeg = c := by rw [ec]; exact nI_clamp (by omega)
      have hok : faceOk a1 a2 a3 a4 a5 B = holds B p (nI c) := by unfold faceOk; rw [e1, e2, e3, e4, e5, ec1, ← ec]; rfl
      have hnf := hv.nf p
      unfold faceI faceN at no ⊢
      rw [hok] at no ⊢
      rw [ec1, ec2, xc, yc, zc] at no ⊢
      rw [hm.r6, show (8 : Int32) = nI 8 from rfl, nI_eq (by omega) (by omega), ep, ec, ex, ey, er]
      refine ⟨vp_in_nI (by omega) (by decide), fun e8 => ?_, fun e8 => no ?_⟩
      · refine lX4_face hv h9 (by omega) (by omega) (fun hh => ?_) no _ 0 (Nat.zero_add _) rfl
        rw [if_pos hh, if_pos hh]
        exact ⟨rfl, ((((h9.setR 7 (8 * p + B.2 6 p) c).setR 8 (8 * p + B.2 6 p) x).setR 9 (8 * p + B.2 6 p) y).setR 10 (8 * p + B.2 6 p) r).setR 6 p (B.2 6 p + 1)⟩
      · unfold holds
        rw [decide_eq_false (by omega)]; rfl) (fun B hv hg => by
    unfold faceN
    by_cases h0 : faceOk a1 a2 a3 a4 a5 B = true
    · rw [if_pos h0]
      unfold faceOk at h0
      rw [Bool.and_eq_true, Bool.and_eq_true, Bool.and_eq_true, Bool.and_eq_true, Bool.and_eq_true] at h0
      obtain ⟨e1, e2, e3, e4, e5, e6⟩ := h0
      have hn := hv.np
      have hnc := hv.nc
      obtain ⟨p, hp, ep⟩ := isIn_get e1
      obtain ⟨c, hcc, ec⟩ := isIn_get e2
      obtain ⟨x, -, hx, ex, xc⟩ := in_get e3
      obtain ⟨y, -, hy, ey, yc⟩ := in_get e4
      obtain ⟨r, -, hr, er, zc⟩ := in_get e5
      have ec1 : a1.toNatClampNeg = p := by rw [ep]; exact nI_clamp (by omega)
      have ec2 : a2.toNatClampNeg = c := by rw [ec]; exact nI_clamp (by omega)
      rw [ec1, ec2, xc, yc, zc]
      rw [ec1, ec] at e6
      exact ⟨inv_face hv hp hcc hx hy hr e6, hg, rfl⟩
    · rw [if_neg h0]
      exact ⟨hv, hg, rfl⟩)
