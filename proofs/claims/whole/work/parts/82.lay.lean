/-! lay -/
theorem pts_0 (sz : Nat → Nat) : pts sz 0 14 = 0 := by
  have h := Pag_pts (sz := sz) (b := 0) (S := 0) (l := 12) ⟨rfl, rfl⟩
  omega
theorem Best_ex {sz : Nat → Nat} (hsz : ∀ p, sz p ≤ 12) {W : Nat} (hW : W < 2 ^ 14) (h0 : W ≠ 0) : ∃ T, Best sz W T := by
  obtain ⟨T0, h1⟩ := Cand_ex hsz hW h0
  obtain ⟨k, ⟨T, h2, h3⟩, h4⟩ := pk_least (fun k => ∃ T, Cand sz W T ∧ 2 ^ 22 - (pts sz T 14 * 2 ^ 14 + (2 ^ 14 - 1 - T)) = k) ⟨_, T0, h1, rfl⟩
  refine ⟨T, h2, fun U hU hb => h4 (2 ^ 22 - (pts sz U 14 * 2 ^ 14 + (2 ^ 14 - 1 - U))) ?_ ⟨U, hU, rfl⟩⟩
  have a1 := sub_lt h2.1 hW
  have a2 := sub_lt hU.1 hW
  have a3 := h2.2.2.1
  have a4 := hU.2.2.1
  unfold bet at hb
  omega
theorem nextP_best {sz : Nat → Nat} (hsz : ∀ p, sz p ≤ 12) {W : Nat} (hW : W < 2 ^ 14) (h0 : W ≠ 0) : Best sz W (nextP sz W) := by
  obtain ⟨T, hT⟩ := Best_ex hsz hW h0
  rw [nextP_is h0 hT]
  exact hT
theorem nextP_sub {sz : Nat → Nat} (hsz : ∀ p, sz p ≤ 12) {W : Nat} (hW : W < 2 ^ 14) : subN (nextP sz W) W := by
  by_cases h0 : W = 0
  · subst h0
    rw [nextP_0]
    exact fun i hi => hi
  · exact (nextP_best hsz hW h0).1.1
theorem nextP_pts {sz : Nat → Nat} (hsz : ∀ p, sz p ≤ 12) {W : Nat} (hW : W < 2 ^ 14) : pts sz (nextP sz W) 14 ≤ 12 := by
  by_cases h0 : W = 0
  · subst h0
    rw [nextP_0, pts_0]
    exact Nat.zero_le _
  · exact (nextP_best hsz hW h0).1.2.2.1
noncomputable def rst (sz : Nat → Nat) (M : Nat) : Nat → Nat
  | 0 => M
  | i + 1 => rst sz M i ^^^ nextP sz (rst sz M i)
noncomputable def layP (sz : Nat → Nat) (M i : Nat) : Nat := nextP sz (rst sz M i)
theorem rst_sub {sz : Nat → Nat} (hsz : ∀ p, sz p ≤ 12) {M : Nat} (hM : M < 2 ^ 14) : ∀ i, subN (rst sz M i) M
  | 0 => fun _ hi => hi
  | i + 1 => fun x hx => by
    have ih := rst_sub hsz hM i
    exact ih x (sub_x (nextP_sub hsz (sub_lt ih hM)) x hx)
theorem rst_few {sz : Nat → Nat} (hsz : ∀ p, sz p ≤ 12) {M : Nat} (hM : M < 2 ^ 14) : ∀ i, i ≤ fewN sz M → fewN sz (rst sz M i) + i = fewN sz M
  | 0, _ => rfl
  | i + 1, h => by
    have ih := rst_few hsz hM i (by omega)
    have hs := sub_lt (rst_sub hsz hM i) hM
    have h0 : rst sz M i ≠ 0 := fun e => by rw [e, few_0] at ih; omega
    have hf : feas sz (rst sz M i) (nextP sz (rst sz M i)) := (nextP_best hsz hs h0).1.2.2.2
    unfold feas at hf
    show fewN sz (rst sz M i ^^^ nextP sz (rst sz M i)) + (i + 1) = _
    omega
theorem layP_sub {sz : Nat → Nat} (hsz : ∀ p, sz p ≤ 12) {M : Nat} (hM : M < 2 ^ 14) (i : Nat) : subN (layP sz M i) M := fun x hx => rst_sub hsz hM i x (nextP_sub hsz (sub_lt (rst_sub hsz hM i) hM) x hx)
theorem layP_pts {sz : Nat → Nat} (hsz : ∀ p, sz p ≤ 12) {M : Nat} (hM : M < 2 ^ 14) (i : Nat) : pts sz (layP sz M i) 14 ≤ 12 := nextP_pts hsz (sub_lt (rst_sub hsz hM i) hM)
/-! the class -/
section
variable {B : Bk} {lt W : Nat} {EI : Nat → Int32} {ER : Nat → Nat → Int32} {q En : Nat}
theorem lX1_np28 (hv : InvB B) (hW : W < 2 ^ lt) {I : Nat → Int32} (hP : PkS B lt I ER En) (h6 : I 6 = nI W) (h7 : W ≠ 0 → I 7 = nI (fewN (B.2 5) W - 1)) (h8 : I 8 = 0) (h9 : I 9 = 0) : ∀ m k, k + m = B.1 11 → (∀ i, i < k → W.testBit i = false) → qX1_nextPage_28 (fun r I' R' _ n' => r = nI (nextP (B.2 5) W) ∧ R' = ER ∧ n' = En ∧ ∀ j, j < 6 → I' j = I j) (nI W) (nI k) I ER q En
  | 0, k, e, hk => by
    have hn := hv.np
    have hl := hP.2.2.1
    refine kX1_nextPage_28 ⟨fun _ => ⟨?_, rfl, rfl, fun _ _ => rfl⟩, fun c => ?_⟩
    · have e0 : W = 0 := by
        apply Nat.eq_of_testBit_eq
        intro i
        rw [Nat.zero_testBit]
        rcases Nat.lt_or_ge i k with z | z
        · exact hk i z
        · exact Nat.testBit_lt_two_pow (Nat.lt_of_lt_of_le hW (Nat.pow_le_pow_right (by decide) (by omega)))
      rw [e0, nextP_0, h8]; rfl
    · rw [hP.1, nI_leI (by omega) (by omega)] at c
      omega
  | m + 1, k, e, hk => by
    have hn := hv.np
    have hl := hP.2.2.1
    have hW14 : W < 2 ^ 14 := Nat.lt_of_lt_of_le hW (p2_14 (by omega))
    refine kX1_nextPage_28 ⟨fun c => ?_, fun _ => ⟨fun c => ?_, fun c => ⟨vp_in_nI (by omega) (by decide), ?_⟩⟩⟩
    · rw [hP.1, nI_leI (by omega) (by omega)] at c
      omega
    · rw [tb_0 (by omega) (by omega)] at c
      rw [nI_1]
      exact lX1_np28 hv hW hP h6 h7 h8 h9 m (k + 1) (by omega) (lt_s hk c)
    · rw [tb_0 (by omega) (by omega)] at c
      have c := of_not_false c
      have hW0 : W ≠ 0 := fun e => by rw [e, Nat.zero_testBit] at c; cases c
      have hlow : isLow W k := ⟨c, hk⟩
      have hp2 := pts_p14 (B.2 5) (x := k) (by omega)
      have hsz := hv.size k
      have hsz1 := hv.size1 k (by omega)
      have e0 : ER 0 k = nI (pts (B.2 5) (2 ^ k) 14) := by rw [hp2]; exact hP.2.1 k (by omega)
      rw [nI_clamp (by omega), tb_shl _ (by omega), e0, nI_1]
      refine ⟨_, sX1_fillPage hv hW 20 (2 ^ k) (k + 1) 0 I (by omega) (by omega) hP h6 (h7 hW0) hW0 (sub_p2 c) (p2_ne k) (Nat.pow_lt_pow_right (by decide) (by omega)) (by omega) h8 (by rw [h9, pts_0]; rfl) (by decide), fun I2 R2 q2 n2 hq => ?_⟩
      obtain ⟨eR, eq, en, hI2, f, g8, g9, gf, gs, gb, gU⟩ := hq
      refine ⟨?_, eR, en, fun j hj => hI2 j (by omega) (by omega)⟩
      have sc : ∀ U, Cand (B.2 5) W U → inSc (B.2 5) W (2 ^ k) (k + 1) U := fun U hU => by
        obtain ⟨u1, ⟨j, u2, u3⟩, u4, u5⟩ := hU
        have := low_uniq u2 hlow
        subst this
        refine ⟨u1, fun i hi => ?_, u4⟩
        rw [Nat.testBit_two_pow]
        by_cases ei : j = i
        · subst ei; rw [u3]; simp
        · rw [decide_eq_false ei]
          cases hx : U.testBit i
          · rfl
          · have := u1 i hx
            rw [hk i (by omega)] at this
            cases this
      have hbest : Best (B.2 5) W f := by
        refine ⟨?_, fun U hU => gU U (sc U hU) hU.2.2.2⟩
        rcases gs with z | ⟨⟨z1, z2, z3⟩, z4⟩
        · exfalso
          obtain ⟨T, hT⟩ := Cand_ex hv.size hW14 hW0
          have a := gU T (sc T hT) hT.2.2.2
          have b := (sc T hT).2.1 k (by omega)
          rw [Nat.testBit_two_pow_self] at b
          have d := pts_sub (sz := B.2 5) (sub_p2 b) 14
          rw [z] at a
          unfold bet at a
          rw [pts_0] at a
          omega
        · have b := z2 k (by omega)
          rw [Nat.testBit_two_pow_self] at b
          exact ⟨z1, ⟨k, hlow, b⟩, z3, z4⟩
      rw [g8, nextP_is hW0 hbest]
theorem PkS.of {I' : Nat → Int32} {R' : Nat → Nat → Int32} {n' : Nat} (h : PkS B lt EI ER En) (e1 : I' 1 = EI 1) (e5 : I' 5 = EI 5) (r0 : R' 0 = ER 0) (r4 : R' 4 = ER 4) (en : n' = En) : PkS B lt I' R' n' := by
  obtain ⟨h1, h2, h3, h4, h5, h6⟩ := h
  exact ⟨by rw [e1]; exact h1, by rw [r0]; exact h2, h3, by rw [e5]; exact h4, by rw [en]; exact h5, by rw [r4]; exact h6⟩
theorem sX1_nextPage (hv : InvB B) (hW : W < 2 ^ lt) (hP : PkS B lt EI ER En) : qX1_nextPage (fun r I' R' _ n' => r = nI (nextP (B.2 5) W) ∧ R' = ER ∧ n' = En ∧ ∀ j, j < 6 → I' j = EI j) (nI W) EI ER q En := by
  have hn := hv.np
  have hl := hP.2.2.1
  have hW14 : W < 2 ^ 14 := Nat.lt_of_lt_of_le hW (p2_14 (by omega))
  refine ⟨_, sX1_pagesForA hv hW (hP.of (I' := va_up EI 6 (nI W)) rfl rfl rfl rfl rfl), fun rc I1 R1 q1 n1 hq => ?_⟩
  obtain ⟨e1, e2, e3, e4, e5⟩ := hq
  rw [e3, e4, e5, e2]
  have key := lX1_np28 (q := q) hv hW (I := va_up (va_up (va_up (va_up EI 6 (nI W)) 7 (rc - 1)) 8 0) 9 0) (hP.of rfl rfl rfl rfl rfl) rfl (fun h0 => by
    show rc - 1 = _
    have := few_pos hv.size hW14 h0
    rw [e1, show (1 : Int32) = nI 1 from rfl, pk_sub (by omega)]) rfl rfl _ 0 (Nat.zero_add _) (fun i hi => absurd hi (Nat.not_lt_zero i))
  have ef : (fun (r : Int32) (I' : Nat → Int32) (R' : Nat → Nat → Int32) (_ n' : Nat) => r = nI (nextP (B.2 5) W) ∧ R' = ER ∧ n' = En ∧ ∀ j, j < 6 → I' j = (va_up (va_up (va_up (va_up EI 6 (nI W)) 7 (rc - 1)) 8 0) 9 0) j) = (fun (r : Int32) (I' : Nat → Int32) (R' : Nat → Nat → Int32) (_ n' : Nat) => r = nI (nextP (B.2 5) W) ∧ R' = ER ∧ n' = En ∧ ∀ j, j < 6 → I' j = EI j) := by
    funext r I' R' q' n'
    apply propext
    refine and_congr_right (fun _ => and_congr_right (fun _ => and_congr_right (fun _ => forall_congr' (fun j => ?_))))
    refine imp_congr_right (fun hj => ?_)
    rw [vu_ne (by omega), vu_ne (by omega), vu_ne (by omega), vu_ne (by omega)]
  rw [ef] at key
  exact key
/-- what a laying leaves -/
def LO (B : Bk) (lt M F c : Nat) (I0 : Nat → Int32) (R0 : Nat → Nat → Int32) : (Nat → Int32) → (Nat → Nat → Int32) → Nat → Nat → Prop := fun I R _ n => PkS B lt I R n ∧ (∀ j, j < 6 → I j = I0 j) ∧ (∀ j, j ≠ 2 → R j = R0 j) ∧ ∀ h, h < c → R 2 h = if F.testBit h then nI (layP (B.2 5) M (fb_ct (fun i => F.testBit i) h)) else R0 2 h
theorem lX1_lo5 (hv : InvB B) {M F c : Nat} (hM : M < 2 ^ lt) (hF : F < 2 ^ 31) (hc : c ≤ 14) {I0 : Nat → Int32} {R0 : Nat → Nat → Int32} (h3 : I0 3 = nI c) {p2 : Int32} : ∀ m g, g + m = c → ∀ (I : Nat → Int32) (R : Nat → Nat → Int32) (q n : Nat), PkS B lt I R n → (∀ j, j < 6 → I j = I0 j) → (∀ j, j ≠ 2 → R j = R0 j) → (∀ h, h < g → R 2 h = if F.testBit h then nI (layP (B.2 5) M (fb_ct (fun i => F.testBit i) h)) else R0 2 h) → (∀ h, g ≤ h → R 2 h = R0 2 h) → qX1_layOnto_5 (LO B lt M F c I0 R0) (nI F) p2 (nI (rst (B.2 5) M (fb_ct (fun i => F.testBit i) g))) (nI g) I R q n
  | 0, g, e, I, R, q, n, hP, hI, hR, h1, h2 => by
    have e3 : I 3 = nI c := by rw [hI 3 (by decide)]; exact h3
    refine kX1_layOnto_5 ⟨fun _ => ⟨hP, hI, hR, fun h hh => h1 h (by omega)⟩, fun c => ?_⟩
    rw [e3, nI_leI (by omega) (by omega)] at c
    omega
  | m + 1, g, e, I, R, q, n, hP, hI, hR, h1, h2 => by
    have hn := hv.np
    have hl := hP.2.2.1
    have hM14 : M < 2 ^ 14 := Nat.lt_of_lt_of_le hM (p2_14 (by omega))
    have e3 : I 3 = nI c := by rw [hI 3 (by decide)]; exact h3
    have ect : fb_ct (fun i => F.testBit i) (g + 1) = fb_ct (fun i => F.testBit i) g + (if F.testBit g then 1 else 0) := rfl
    refine kX1_layOnto_5 ⟨fun c => ?_, fun _ => ⟨fun c => ?_, fun c => ?_⟩⟩
    · rw [e3, nI_leI (by omega) (by omega)] at c
      omega
    · rw [tb_0 hF (by omega)] at c
      have ih := lX1_lo5 (R0 := R0) hv hM hF hc h3 (p2 := p2) m (g + 1) (by omega) I R q n hP hI hR (fun h hh => by
        by_cases eh : h = g
        · subst eh; rw [c, if_neg (by decide)]; exact h2 h (Nat.le_refl _)
        · exact h1 h (by omega)) (fun h hh => h2 h (by omega))
      rw [ect, c, if_neg (by decide), Nat.add_zero] at ih
      rw [nI_1]
      exact ih
    · rw [tb_0 hF (by omega)] at c
      have c := of_not_false c
      have hsub := rst_sub hv.size hM14 (fb_ct (fun i => F.testBit i) g)
      refine ⟨_, sX1_nextPage hv (sub_lt hsub hM) hP, fun rc I1 R1 q1 n1 hq => ⟨vp_in_nI (by omega) (by decide), fun v ev x3 ex3 => ?_⟩⟩
      obtain ⟨q1', q2, q3, q4⟩ := hq
      rw [pk_us, q1'] at ev
      rw [ev, tb_andN, ← xor_andN (nextP_sub hv.size (sub_lt hsub hM14))] at ex3
      rw [ex3, nI_clamp (by omega), nI_1, q2, q3, q1']
      have ih := lX1_lo5 (R0 := R0) hv hM hF hc h3 (p2 := p2) m (g + 1) (by omega) I1 (va_up R 2 (upd (R 2) g (nI (nextP (B.2 5) (rst (B.2 5) M (fb_ct (fun i => F.testBit i) g)))))) q1 n (hP.of (q4 1 (by decide)) (q4 5 (by decide)) rfl rfl rfl) (fun j hj => (q4 j hj).trans (hI j hj)) (fun j hj => by rw [vu_ne hj]; exact hR j hj) (fun h hh => by
        rw [vu_eq]
        by_cases eh : h = g
        · subst eh; rw [pk_us, if_pos c]; rfl
        · rw [pk_un eh]; exact h1 h (by omega)) (fun h hh => by rw [vu_eq, pk_un (by omega)]; exact h2 h (by omega))
      rw [ect, c, if_pos rfl] at ih
      exact ih
theorem sX1_layOnto (hv : InvB B) {M F c : Nat} (hM : M < 2 ^ lt) (hF : F < 2 ^ 31) (hc : c ≤ 14) (h3 : EI 3 = nI c) (hP : PkS B lt EI ER En) : qX1_layOnto (LO B lt M F c EI ER) (nI F) (nI M) EI ER q En := lX1_lo5 hv hM hF hc h3 _ 0 (Nat.zero_add _) EI ER q En hP (fun _ _ => rfl) (fun _ _ => rfl) (fun h hh => absurd hh (Nat.not_lt_zero h)) (fun _ _ => rfl)
end
