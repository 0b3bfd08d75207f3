/-! late: both -/
def lateGo (a : Int32) (B : Bk) : Bool := isIn a (B.1 11) && (!(B.1 16).testBit a.toNatClampNeg && decide (B.1 18 ≠ 0))
theorem inv_late0 {B : Bk} (hv : InvB B) (hg : PgI B) {p : Nat} (hp : p < B.1 11) (hc : B.1 18 < 14) : InvB (setI (setI (setR B 17 (B.1 18) (2 ^ p)) 18 (B.1 18 + 1)) 16 (B.1 16 ||| 2 ^ p)) ∧ PgI (setI (setI (setR B 17 (B.1 18) (2 ^ p)) 18 (B.1 18 + 1)) 16 (B.1 16 ||| 2 ^ p)) := by
  have hsz := hv.size p
  have hnp := hv.np
  have h2 : 2 ^ p < 2 ^ B.1 11 := Nat.pow_lt_pow_right (by decide) hp
  obtain ⟨⟨a1, a2, a3, a4, a5, a6, a7, a8, a9⟩, hb, hd, hd5⟩ := hv
  refine ⟨⟨⟨a1, a2, a3, a4, a5, a6, a7, Nat.or_lt_two_pow a8 h2, hc⟩, hb, hd, fun g h9 => ?_⟩, fun g h9 => ?_⟩
  · have h9 : g < B.1 18 + 1 := h9
    show va_up (B.2 17) (B.1 18) (2 ^ p) g < 2 ^ B.1 11
    rw [vu_if]
    split
    · exact h2
    · exact hd5 g (by omega)
  · have h9 : g < B.1 18 + 1 := h9
    show pts (B.2 5) (va_up (B.2 17) (B.1 18) (2 ^ p) g) 14 ≤ 12
    rw [vu_if]
    split
    · rw [pts_p14 _ (by omega)]; exact hsz
    · exact hg g (by omega)
theorem inv_late1 {B : Bk} (hv : InvB B) (hg : PgI B) {p F M : Nat} (hp : p < B.1 11) (hM : M < 2 ^ B.1 11) : InvB (setI (B.1, va_up B.2 17 (lateF B F M)) 16 (B.1 16 ||| 2 ^ p)) ∧ PgI (setI (B.1, va_up B.2 17 (lateF B F M)) 16 (B.1 16 ||| 2 ^ p)) := by
  have hsize := hv.size
  have hM14 : M < 2 ^ 14 := Nat.lt_of_lt_of_le hM (p2_14 hv.np)
  have h2 : 2 ^ p < 2 ^ B.1 11 := Nat.pow_lt_pow_right (by decide) hp
  obtain ⟨⟨a1, a2, a3, a4, a5, a6, a7, a8, a9⟩, hb, hd, hd5⟩ := hv
  refine ⟨⟨⟨a1, a2, a3, a4, a5, a6, a7, Nat.or_lt_two_pow a8 h2, a9⟩, hb, hd, fun g h9 => ?_⟩, fun g h9 => ?_⟩
  · show lateF B F M g < 2 ^ B.1 11
    unfold lateF
    split
    · exact sub_lt (layP_sub hsize hM14 _) hM
    · exact hd5 g h9
  · show pts (B.2 5) (lateF B F M g) 14 ≤ 12
    unfold lateF
    split
    · exact layP_pts hsize hM14 _
    · exact hg g h9
theorem ag_late : Ag_late JJ := fun {k c s u v} a hk hj => by
  obtain ⟨B, lt, hv, hg, hc, hm, h1, h2⟩ := hj
  have hn := hv.np
  have hpm := hv.pm
  have hch := ch_lt hv
  have hlast := hv.last
  have h9 := hm.upI (j := 19) (by decide) 0
  have hlt : lt ≤ B.1 11 := hc.2.2.2.2.1
  have hpw0 : 2 ^ (lt + 1) ≤ 2 ^ 15 := Nat.pow_le_pow_right (by decide) (by omega)
  by_cases h0 : lateGo a B = true
  · unfold lateGo at h0
    rw [Bool.and_eq_true, Bool.and_eq_true] at h0
    obtain ⟨o1, o2, o3⟩ := h0
    have o3 : B.1 18 ≠ 0 := of_decide_eq_true o3
    obtain ⟨p, hp, rfl⟩ := isIn_get o1
    rw [nI_clamp (by omega)] at o2
    have o2 : (B.1 16).testBit p = false := by simpa using o2
    have hPg : PgS B lt u.2.2.2.2.2.2.1 u.2.2.2.2.2.2.2.1 u.2.2.2.2.2.2.2.2.2.1 := ⟨RCc.pk hc, RCc.e3 hc, fun g hg9 => RCc.pg hc hg9⟩
    have hlr : u.2.1 5 3 = nI (B.1 15) := RCc.last hc
    obtain ⟨F, lt', l1, l2, hF, hFM, hq⟩ := sX1_change hv hg hp hlt
    have hpw : 2 ^ (lt' + 1) ≤ 2 ^ 15 := Nat.pow_le_pow_right (by decide) (by omega)
    have hpl : 2 ^ (lt + 1) ≤ 2 ^ (lt' + 1) := Nat.pow_le_pow_right (by decide) (by omega)
    have hF18 : F < 2 ^ B.1 18 := Fnd_lt hF (Nat.two_pow_pos _)
    have hF14 : F < 2 ^ 14 := Nat.lt_of_lt_of_le hF18 (p2_14 hpm)
    have hc14 : 2 ^ B.1 18 ≤ 2 ^ 14 := p2_14 hpm
    -- both, given what they leave
    have fin : ∀ (B' : Bk) (r : Int32), InvB B' → PgI B' → B'.1 11 = B.1 11 →
        (∀ (post : Int32 → (Nat → Int32) → (Nat → Nat → Int32) → Nat → Nat → Prop), (∀ (EI : Nat → Int32) (ER : Nat → Nat → Int32) (Eq En : Nat), ((r = -1 → RC (u.1, u.2.1, u.2.2.1, u.2.2.2.1, u.2.2.2.2.1, u.2.2.2.2.2.1, EI, ER, Eq, En, u.2.2.2.2.2.2.2.2.2.2) B' lt') ∧ (¬ r = -1 → RC (va_up u.1 6 (nI (B.1 16 ||| 2 ^ p)), u.2.1, u.2.2.1, u.2.2.2.1, u.2.2.2.2.1, u.2.2.2.2.2.1, EI, ER, Eq, En, u.2.2.2.2.2.2.2.2.2.2) B' lt')) → post r EI ER Eq En) → qX1_bringIn (lt' - lt) (2 ^ (lt' + 1) - 2 ^ (lt + 1)) post (nI p) (nI (B.1 15)) u.2.2.2.2.2.2.1 u.2.2.2.2.2.2.2.1 u.2.2.2.2.2.2.2.2.1 u.2.2.2.2.2.2.2.2.2.1) →
        (∀ R2 : Nat → Nat → Int32, RM (va_up v.1 19 0) R2 B → (∀ U, subN U (onB B (2 ^ B.1 18 - 1) (B.1 18) ||| 2 ^ p) → R2 25 U = nI (fewN (B.2 5) U)) → qX4_late_58 (pQ B' r) (nI p) (nI F) (nI (2 ^ B.1 18)) (va_up v.1 19 0) R2) →
        ∃ (mc ms : Nat) (P : Int32 → (Nat → Int32) → (Nat → Nat → Int32) → (Nat → Int32) → (Nat → Int64) → (Nat → Nat → Int32) → (Nat → Nat → Int64) → (Nat → Int32) → (Nat → Nat → Int32) → Nat → Nat → vS → Prop), c + mc ≤ 601024 ∧ s + ms ≤ 7293033 ∧ qX3_late mc ms P (nI p) u.1 u.2.1 u.2.2.1 u.2.2.2.1 u.2.2.2.2.1 u.2.2.2.2.2.1 u.2.2.2.2.2.2.1 u.2.2.2.2.2.2.2.1 u.2.2.2.2.2.2.2.2.1 u.2.2.2.2.2.2.2.2.2.1 u.2.2.2.2.2.2.2.2.2.2 ∧ ∀ (r : Int32) (u' : cS), P r u'.1 u'.2.1 u'.2.2.1 u'.2.2.2.1 u'.2.2.2.2.1 u'.2.2.2.2.2.1 u'.2.2.2.2.2.2.1 u'.2.2.2.2.2.2.2.1 u'.2.2.2.2.2.2.2.2.1 u'.2.2.2.2.2.2.2.2.2.1 u'.2.2.2.2.2.2.2.2.2.2 → ∃ P' : Int32 → (Nat → Int32) → (Nat → Nat → Int32) → Prop, qX4_late P' (nI p) v.1 v.2 ∧ ∀ (r' : Int32) (v' : mS), P' r' v'.1 v'.2 → r = r' ∧ JJ (k + 1) (c + mc) (s + ms) u' v' := by
      intro B' r i1 i2 i3 hcl hre
      refine ⟨lt' - lt, 2 ^ (lt' + 1) - 2 ^ (lt + 1), fun r' I R CI CJ CR CG EI ER Eq En V => r' = r ∧ RC (I, R, CI, CJ, CR, CG, EI, ER, Eq, En, V) B' lt', by omega, by omega, ?_, fun r' u' hr => ⟨pQ B' r, ?_, fun r2 v' hq => ⟨hr.1.trans hq.1.symm, B', lt', i1, i2, hr.2, hq.2, by rw [i3]; omega, by rw [i3]; omega⟩⟩⟩
      · refine ⟨by rw [RCc.i4 hc, RCc.vn hc], by rw [RCc.vn hc]; exact hn, fun e => ?_, fun p' hp' ep => ⟨_, sX3_isChosen hc hv (by omega), fun rc hrc => ⟨fun e => ?_, fun _ => ⟨fun _ => ⟨_, _, ⟨by rw [Nat.zero_add]; exact Nat.le_refl _, by rw [Nat.zero_add]; exact Nat.le_refl _⟩, _, (by rw [hlr]; exact hcl (fun r' EI ER Eq En => r' = r ∧ (r = -1 → RC (u.1, u.2.1, u.2.2.1, u.2.2.2.1, u.2.2.2.2.1, u.2.2.2.2.2.1, EI, ER, Eq, En, u.2.2.2.2.2.2.2.2.2.2) B' lt') ∧ (¬ r = -1 → RC (va_up u.1 6 (nI (B.1 16 ||| 2 ^ p)), u.2.1, u.2.2.1, u.2.2.2.1, u.2.2.2.2.1, u.2.2.2.2.2.1, EI, ER, Eq, En, u.2.2.2.2.2.2.2.2.2.2) B' lt')) (fun EI ER Eq En h => ⟨rfl, h⟩)), fun rc3 EI ER Eq En hq3 => ?_⟩, fun e => ?_⟩⟩⟩⟩
        · exfalso
          rcases e with e | e
          · exact absurd e (nI_pos (by omega))
          · rw [RCc.i4 hc, nI_leI (by omega) (by omega)] at e
            omega
        · rw [hrc, b2i_n0, o2] at e
          cases e
        · obtain ⟨w1, w2, w3⟩ := hq3
          rw [w1, RCc.i6 hc, tb_shl _ (by omega), tb_or]
          exact ⟨fun e => ⟨rfl, w2 e⟩, fun e => ⟨rfl, w3 e⟩⟩
        · rw [RCc.e3 hc, nI_z (by omega)] at e
          exact absurd e o3
      · have hp2 := tb_p2 (k := B.1 18) (by omega)
        refine ⟨_, sX4_isPicture h9 hv _, fun rc hrc => ⟨fun e => ?_, fun _ => ?_⟩⟩
        · rw [hrc, b2i_0, o1] at e
          cases e
        · rw [hm.i16, hm.i18, tb_1 (by omega) (by omega), nI_z (by omega), tb_shl _ (by omega), tb_shl _ (by omega), show (1 : Int32) = nI 1 from rfl, pk_sub hp2.1]
          refine ⟨(fun e => by rw [o2] at e; cases e), fun _ => ⟨fun _ => ⟨_, sX4_on h9 hv (by omega), fun rc2 hrc2 => ?_⟩, fun e => absurd e o3⟩⟩
          rw [hrc2, tb_or]
          refine ⟨_, sX4_pack hv h9 (Nat.or_lt_two_pow (onB_lt hv _ (Nat.le_refl _)) (Nat.pow_lt_pow_right (by decide) hp)), fun I2 R2 hq2 => ?_⟩
          obtain ⟨q1, q2, q3, q4, q5⟩ := hq2
          subst q1
          refine lX4_late58 q2 hv hp q4 (fun F2 hF2 => ?_) (2 ^ B.1 18 - 1) 1 (by omega) (by omega) 0 (Or.inl ⟨rfl, fun G g1 g2 => by omega⟩)
          rw [Fnd_uniq hF2 hF]
          exact hre R2 q2 q4
    by_cases hF0 : F = 0
    · subst hF0
      by_cases hcl : B.1 18 < B.1 15
      · -- a page more
        obtain ⟨i1, i2⟩ := inv_late0 hv hg hp (by omega)
        refine fin _ 1 i1 i2 rfl (fun post hpost => ?_) (fun R2 hR2 h25 => ?_)
        · refine ⟨_, _, ⟨by rw [Nat.zero_add]; exact Nat.le_refl _, by rw [Nat.zero_add]; exact Nat.le_refl _⟩, _, hq _ _ _ _ hPg, fun rc I1 R1 q1 n1 hq1 => ?_⟩
          obtain ⟨w1, w2, w3, w4⟩ := hq1
          refine ⟨fun e => absurd w1 e, fun _ => ?_⟩
          rw [w2.2.1, nI_leI (by omega) (by omega), show (14 : Int32) = nI 14 from rfl, nI_ltI (by omega) (by omega), nI_clamp (by omega), nI_1, tb_shl _ (by omega)]
          refine ⟨fun e => absurd hcl (by omega), fun _ => ⟨fun _ => ⟨vp_in_nI (by omega) (by decide), hpost _ _ _ _ ⟨fun e => absurd e (by decide), fun _ => ?_⟩⟩, fun e => absurd (by omega) e⟩⟩
          obtain ⟨a1, a2, a3, ⟨b1, b2, b3, b4⟩, cc⟩ := hc
          obtain ⟨k1, k2, k3, k4, k5, k6⟩ := w2.1
          refine ⟨⟨a1.1, a1.2.1, rfl⟩, a2, a3, ⟨k1, rfl, k2, fun g hg9 => ?_⟩, k3, k4, k5, k6⟩
          have hg9 : g < B.1 18 + 1 := hg9
          show upd (R1 2) (B.1 18) (nI (2 ^ p)) g = nI (va_up (B.2 17) (B.1 18) (2 ^ p) g)
          by_cases eg : g = B.1 18
          · subst eg; rw [pk_us, vu_eq]
          · rw [pk_un eg, vu_ne eg]; exact w2.2.2 g (by omega)
        · refine kX4_late_58 ⟨fun _ => ⟨fun e => absurd rfl e, fun _ => ?_⟩, fun e => ?_⟩
          · rw [hR2.i18, hR2.i15, hR2.i16, nI_ltI (by omega) (by omega), nI_clamp (by omega), nI_1, tb_shl _ (by omega), tb_or]
            exact ⟨fun _ => ⟨vp_in_nI (by omega) (by decide), rfl, ((hR2.setR 17 (B.1 18) (2 ^ p)).setI 18 (B.1 18 + 1)).setI 16 (B.1 16 ||| 2 ^ p)⟩, fun e => absurd hcl e⟩
          · rw [hR2.i18, tb_shl _ (by omega), nI_leI (by omega) (by omega)] at e
            omega
      · -- refused
        refine fin B (-1) hv hg rfl (fun post hpost => ?_) (fun R2 hR2 h25 => ?_)
        · refine ⟨_, _, ⟨by rw [Nat.zero_add]; exact Nat.le_refl _, by rw [Nat.zero_add]; exact Nat.le_refl _⟩, _, hq _ _ _ _ hPg, fun rc I1 R1 q1 n1 hq1 => ?_⟩
          obtain ⟨w1, w2, w3, w4⟩ := hq1
          have hrc := RCc.withPk hc w2.1 (w3 3 (by decide)) (w4 2 (by decide))
          refine ⟨fun e => absurd w1 e, fun _ => ?_⟩
          rw [w2.2.1, nI_leI (by omega) (by omega)]
          exact ⟨fun _ => hpost _ _ _ _ ⟨fun _ => hrc, fun e => absurd rfl e⟩, fun e => absurd (by omega) e⟩
        · refine kX4_late_58 ⟨fun _ => ⟨fun e => absurd rfl e, fun _ => ?_⟩, fun e => ?_⟩
          · rw [hR2.i18, hR2.i15, nI_ltI (by omega) (by omega)]
            exact ⟨fun e => absurd e hcl, fun _ => ⟨rfl, hR2⟩⟩
          · rw [hR2.i18, tb_shl _ (by omega), nI_leI (by omega) (by omega)] at e
            omega
    · -- pages laid anew
      have hM := hFM hF0
      have hM11 : 2 ^ p ||| onB B F (B.1 18) < 2 ^ B.1 11 := Nat.or_lt_two_pow (Nat.pow_lt_pow_right (by decide) hp) (onB_lt hv F (Nat.le_refl _))
      have hM14 : 2 ^ p ||| onB B F (B.1 18) < 2 ^ 14 := Nat.lt_of_lt_of_le hM11 (p2_14 hn)
      obtain ⟨i1, i2⟩ := inv_late1 (F := F) hv hg hp hM11
      have hcF := cnt_le (S := F)
      refine fin _ (nI (cnt F)) i1 i2 rfl (fun post hpost => ?_) (fun R2 hR2 h25 => ?_)
      · refine ⟨_, _, ⟨by rw [Nat.zero_add]; exact Nat.le_refl _, by rw [Nat.zero_add]; exact Nat.le_refl _⟩, _, hq _ _ _ _ hPg, fun rc I1 R1 q1 n1 hq1 => ?_⟩
        obtain ⟨w1, w2, w3, w4⟩ := hq1
        refine ⟨fun _ x4 e4 => ?_, fun e => ?_⟩
        · rw [tb_shl _ (by omega)] at e4
          have e5 : x4 = nI (2 ^ p ||| onB B F 0) := by
            rw [e4]
            show _ = nI (2 ^ p ||| 0)
            rw [Nat.or_zero]
          rw [e5, w1]
          refine bi61 hv hF18 w2 hM (fun I2 R3 q2 n2 hq2 => hpost _ _ _ _ ⟨fun e => absurd e (m1_ne (by omega)), fun _ => ?_⟩) _ 0 (Nat.zero_add _)
          obtain ⟨z1, z2, z3, z4⟩ := hq2
          obtain ⟨a1, a2, a3, ⟨b1, b2, b3, b4⟩, cc⟩ := hc
          obtain ⟨k1, k2, k3, k4, k5, k6⟩ := z1
          refine ⟨⟨a1.1, a1.2.1, rfl⟩, a2, a3, ⟨k1, ?_, k2, fun g hg9 => ?_⟩, k3, k4, k5, k6⟩
          · show I2 3 = nI (B.1 18)
            rw [z2 3 (by decide)]
            exact w2.2.1
          · have hg9 : g < B.1 18 := hg9
            show R3 2 g = nI (lateF B F (2 ^ p ||| onB B F (B.1 18)) g)
            rw [z4 g hg9]
            unfold lateF
            split
            · rfl
            · exact w2.2.2 g hg9
        · rw [w1, nI_z (by omega)] at e
          exact absurd e hF0
      · refine kX4_late_58 ⟨fun _ => ⟨fun _ => ⟨_, sX4_on hR2 hv (by omega), fun rc4 hrc4 => ?_⟩, fun e => ?_⟩, fun e => ?_⟩
        · rw [hrc4, tb_shl _ (by omega), tb_or, Nat.or_comm]
          refine ⟨_, sX4_layAll hv hR2 hM11, fun rc5 I5 R5 hq5 => ?_⟩
          obtain ⟨t1, t2, t3, t4⟩ := hq5
          rw [t1, t2]
          exact lX4_late188 hv (by omega) hF18 hM14 t3 t4 _ 0 (Nat.zero_add _) R5 (fun _ _ => rfl) (fun i hi => absurd hi (Nat.not_lt_zero i)) (fun i _ => t3.r17 i)
        · rw [nI_z (by omega)] at e
          exact absurd e hF0
        · rw [hR2.i18, tb_shl _ (by omega), nI_leI (by omega) (by omega)] at e
          omega
  · refine ⟨0, 0, fun r I R CI CJ CR CG EI ER Eq En V => r = -1 ∧ RC (I, R, CI, CJ, CR, CG, EI, ER, Eq, En, V) B lt, by omega, by omega, ?_, fun r u' hr => ⟨pQ B (-1), ?_, fun r' v' hq => ⟨hr.1.trans hq.1.symm, B, lt, hv, hg, hr.2, hq.2, by omega, by omega⟩⟩⟩
    · refine ⟨by rw [RCc.i4 hc, RCc.vn hc], by rw [RCc.vn hc]; exact hn, fun _ => ⟨rfl, hc⟩, fun p hp ep => ?_⟩
      rw [RCc.vn hc] at hp
      subst ep
      refine ⟨_, sX3_isChosen hc hv (by omega), fun rc hrc => ⟨fun _ => ⟨rfl, hc⟩, fun e1 => ⟨fun e2 => ?_, fun _ => ⟨rfl, hc⟩⟩⟩⟩
      rw [hrc, b2i_0] at e1
      rw [RCc.e3 hc, nI_z (by omega)] at e2
      exfalso
      apply h0
      unfold lateGo
      rw [isIn_nI (by omega), decide_eq_true hp, nI_clamp (by omega), e1, decide_eq_true e2]
      rfl
    · refine ⟨_, sX4_isPicture h9 hv _, fun rc hrc => ⟨fun _ => ⟨rfl, h9⟩, fun e => ?_⟩⟩
      rw [hrc, b2i_n0] at e
      obtain ⟨p, hp, rfl⟩ := isIn_get e
      rw [hm.i16, hm.i18, tb_1 (by omega) (by omega), nI_z (by omega)]
      refine ⟨fun _ => ⟨rfl, h9⟩, fun e1 => ⟨fun e2 => ?_, fun _ => ⟨rfl, h9⟩⟩⟩
      exfalso
      apply h0
      unfold lateGo
      rw [e, nI_clamp (by omega), of_not_true e1, decide_eq_true e2]
      rfl
