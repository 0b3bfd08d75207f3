/-! the chooser is told: offer, sumUp -/
def lZ (z : Int) : Int64 := Int64.ofInt z
theorem lZ_nat (n : Nat) : lN n = lZ (n : Int) := Int64.toBitVec_inj.mp (by show BitVec.ofNat 64 n = BitVec.ofInt 64 (n : Int); simp)
theorem lZ_add (a b : Int) : lZ a + lZ b = lZ (a + b) := (Int64.ofInt_add a b).symm
theorem lZ_sub (a b : Int) : lZ a - lZ b = lZ (a - b) := (Int64.ofInt_sub a b).symm
theorem lZ_mul (a b : Int) : lZ a * lZ b = lZ (a * b) := (Int64.ofInt_mul a b).symm
theorem lZ_neg (a : Int) : -lZ a = lZ (-a) := (Int64.ofInt_neg a).symm
theorem lZ_toInt {z : Int} (h1 : -4611686018427387904 ≤ z) (h2 : z < 4611686018427387904) : (lZ z).toInt = z := by
  unfold lZ
  rw [Int64.toInt_ofInt]
  show z.bmod 18446744073709551616 = z
  exact Int.bmod_eq_of_le (by omega) (by omega)
theorem lZ_le {a b : Int} (a1 : -4611686018427387904 ≤ a) (a2 : a < 4611686018427387904) (b1 : -4611686018427387904 ≤ b) (b2 : b < 4611686018427387904) : lZ a ≤ lZ b ↔ a ≤ b := by rw [fa_le64, lZ_toInt a1 a2, lZ_toInt b1 b2]
def fours (s : Nat) : Nat := dsum 4 (fun c => if s.testBit c then 1 else 0) 16
theorem fo1 (s : Nat) (n : Nat) : ∀ i, i < n → (if s.testBit i then 1 else 0) < 2 ^ 4 := fun i _ => by split <;> decide
theorem lX0_fours {s : Nat} (hs : s < 2 ^ 31) : ∀ m k, k + m = 16 → qX0_inFours_4 (fun r => r = lN (fours s)) (nI s) (lN (dsum 4 (fun c => if s.testBit c then 1 else 0) k)) (nI k)
  | 0, k, e => by
    have e : k = 16 := by omega
    subst e
    exact kX0_inFours_4 ⟨fun _ => rfl, fun c => absurd (by decide) c⟩
  | m + 1, k, e => by
    have ih := lX0_fours hs m (k + 1) (by omega)
    rw [← nI_1, dsum] at ih
    refine kX0_inFours_4 ⟨fun c => ?_, fun _ => ⟨fun c => ?_, fun c x1 e1 => ?_⟩⟩
    · rw [show (16 : Int32) = nI 16 from rfl, nI_leI (by omega) (by omega)] at c
      omega
    · rw [tb_0 hs (by omega)] at c
      rw [c, if_neg (by decide), Nat.mul_zero, Nat.zero_add] at ih
      exact ih
    · rw [tb_0 hs (by omega)] at c
      rw [if_pos (of_not_false c), Nat.two_pow_add_eq_or_of_lt (dsum_lt k (fo1 s k)), Nat.mul_one, Nat.or_comm] at ih
      rw [show (4 : Int32) = nI 4 from rfl, pk_mul, show (1 : Int64) = lN 1 from rfl, wb_shl 1 (by omega), Nat.one_mul, fb_orL] at e1
      rw [e1]
      exact ih
theorem sX0_inFours {s : Nat} (hs : s < 2 ^ 31) : qX0_inFours (fun r => r = lN (fours s)) (nI s) := lX0_fours hs 16 0 rfl
def ncU (U : Nat) : Nat → Nat := fun c => if U.testBit c then 0 else 15
theorem ncU_lt (U : Nat) : ∀ i, i < 16 → ncU U i < 2 ^ 4 := fun i _ => by unfold ncU; split <;> decide
theorem f15 : ∀ j, j < 4 → (15 : Nat).testBit j = true := by decide
theorem m1_tb : ∀ k, k < 64 → (18446744073709551615 : Nat).testBit k = true := by decide +kernel
theorem nc_step (U s : Nat) : dsum 4 (ncU U) 16 &&& ((fours s * 15) ^^^ 18446744073709551615) = dsum 4 (ncU (U ||| s)) 16 := by
  have e : fours s * 15 = dsum 4 (fun c => if s.testBit c then 15 else 0) 16 := by
    unfold fours
    have : ∀ n, dsum 4 (fun c => if s.testBit c then 1 else 0) n * 15 = dsum 4 (fun c => if s.testBit c then 15 else 0) n := fun n => by
      induction n with
      | zero => rfl
      | succ n ih =>
        rw [dsum, dsum, Nat.add_mul, ih, Nat.mul_assoc]
        congr 2
        split <;> rfl
    exact this 16
  rw [e]
  apply Nat.eq_of_testBit_eq
  intro k
  rw [Nat.testBit_and, Nat.testBit_xor, dsum_tb (by decide) 16 (ncU_lt U), dsum_tb (by decide) 16 (fun i _ => by split <;> decide), dsum_tb (by decide) 16 (ncU_lt (U ||| s))]
  by_cases g : k < 64
  · rw [decide_eq_true (show k < 4 * 16 by omega), m1_tb k g]
    unfold ncU
    rw [Nat.testBit_or]
    have h15 := f15 (k % 4) (by omega)
    cases U.testBit (k / 4) <;> cases s.testBit (k / 4) <;> simp [h15]
  · rw [decide_eq_false (show ¬ k < 4 * 16 by omega)]
    rfl
section
variable {B : Bk}
theorem cL_p2 {p : Nat} (hp : p < B.1 11) : cL B (2 ^ p) = fours (seenB B p) := dsum_cong (fun c _ => times_p2 p c hp)
theorem pow_int (p : Nat) : ((2 ^ p : Nat) : Int) = (2 : Int) ^ p := Int.natCast_pow 2 p
theorem mk_bd (hv : InvB B) (nr : Bool) {p : Nat} (hp : p < 14) : -8589934592 ≤ mk B nr p ∧ mk B nr p ≤ 8589934592 := by
  have h1 := hv.worth p
  have h2 : (2 ^ p : Nat) ≤ 2 ^ 13 := Nat.pow_le_pow_right (by decide) (by omega)
  have h3 := pow_int p
  unfold mk
  rw [← h3]
  clear h3
  generalize (2 ^ p : Nat) = P at *
  cases nr <;> cases (B.1 16).testBit p <;> simp <;> omega
theorem mS_bd (hv : InvB B) (nr : Bool) (S : Nat) : -200000000000 ≤ mkS B nr S (B.1 11) ∧ mkS B nr S (B.1 11) ≤ 200000000000 := by
  have hn := hv.np
  have := fb_si_bound (f := fun p => if S.testBit p then mk B nr p else 0) (c := 8589934592) (by decide) (n := B.1 11) (fun k hk => by
    have := mk_bd hv nr (p := k) (by omega)
    show -8589934592 ≤ (if S.testBit k then mk B nr k else 0) ∧ (if S.testBit k then mk B nr k else 0) ≤ 8589934592
    split <;> omega)
  have e : mkS B nr S (B.1 11) = fb_si (fun p => if S.testBit p then mk B nr p else 0) (B.1 11) := rfl
  rw [e]
  have hc : ((B.1 11 : Nat) : Int) * 8589934592 ≤ 14 * 8589934592 := by omega
  omega
/-- the chooser's rows as far as pictures were offered -/
def OfS (B : Bk) (nr : Bool) (p : Nat) (I : Nat → Int32) (J : Nat → Int64) (R : Nat → Nat → Int32) (G : Nat → Nat → Int64) : Prop := (I 0 = nI (B.1 13) ∧ I 1 = nI (B.1 14) ∧ I 2 = nI (idx B p) ∧ J 10 = lN (dsum 4 (ncU (orN (seenB B) p)) 16)) ∧ ∀ q, q < p → goodB B q = true → R 3 (idx B q) = nI (2 ^ q) ∧ G 4 (idx B q) = lN (cL B (2 ^ q)) ∧ G 5 (idx B q) = lZ (mk B nr q)
/-- .. and its sums from the i-th on -/
def SuS (B : Bk) (nr : Bool) (i : Nat) (R : Nat → Nat → Int32) (G : Nat → Nat → Int64) : Prop := ∀ j, i ≤ j → j ≤ gN B → G 6 j = lN (cL B (hiS B j)) ∧ G 7 j = lN (cL B (wiS B nr j)) ∧ R 8 j = nI (wiS B nr j) ∧ G 9 j = lZ (mkS B nr (wiS B nr j) (B.1 11))
def ChS (B : Bk) (nr : Bool) (I : Nat → Int32) (J : Nat → Int64) (R : Nat → Nat → Int32) (G : Nat → Nat → Int64) : Prop := OfS B nr (B.1 11) I J R G ∧ SuS B nr 0 R G
theorem OfS.keep {nr : Bool} {p : Nat} {I : Nat → Int32} {J : Nat → Int64} {R R' : Nat → Nat → Int32} {G G' : Nat → Nat → Int64} (h : OfS B nr p I J R G) (h3 : R' 3 = R 3) (h4 : G' 4 = G 4) (h5 : G' 5 = G 5) : OfS B nr p I J R' G' := ⟨h.1, fun q hq hg => by rw [h3, h4, h5]; exact h.2 q hq hg⟩
theorem sX0_offer (hv : InvB B) {nr : Bool} {p : Nat} (hp : p < B.1 11) (hg : goodB B p = true) {I : Nat → Int32} {J : Nat → Int64} {R : Nat → Nat → Int32} {G : Nat → Nat → Int64} (h : OfS B nr p I J R G) : qX0_offer (OfS B nr (p + 1)) (nI (2 ^ p)) (nI (seenB B p)) (lZ (mk B nr p)) I J R G := by
  have hn := hv.np
  have hi := idx_le (B := B) p
  obtain ⟨⟨h0, h1, h2, h3⟩, h4⟩ := h
  have hs := seenB_lt hv p
  unfold qX0_offer
  rw [h2, show (14 : Int32) = nI 14 from rfl, nI_leI (by omega) (by omega), nI_clamp (by omega), nI_1]
  refine ⟨fun c => absurd c (by omega), fun _ => ⟨vp_in_nI (by omega) (by decide), _, sX0_inFours (by omega), fun rc hrc v ev => ?_⟩⟩
  rw [pk_uLs, hrc] at ev
  have es : idx B (p + 1) = idx B p + 1 := by rw [idx_succ, if_pos hg]
  refine ⟨⟨h0, h1, ?_, ?_⟩, fun q hq hgq => ?_⟩
  · rw [vu_eq, es]
  · rw [vu_eq, h3, ev, show (15 : Int64) = lN 15 from rfl, lN_mul, show (-1 : Int64) = lN 18446744073709551615 from by decide, fb_xorL, fb_andL, nc_step]
    rfl
  · show upd (R 3) (idx B p) (nI (2 ^ p)) (idx B q) = nI (2 ^ q) ∧ vp_updL (G 4) (idx B p) rc (idx B q) = lN (cL B (2 ^ q)) ∧ vp_updL (G 5) (idx B p) (lZ (mk B nr p)) (idx B q) = lZ (mk B nr q)
    by_cases e : q = p
    · subst e
      rw [pk_us, pk_uLs, pk_uLs, hrc, cL_p2 hp]
      exact ⟨rfl, rfl, rfl⟩
    · have hne : idx B q ≠ idx B p := fun z => e (idx_one hgq hg z)
      rw [pk_un hne, pk_uLn hne, pk_uLn hne]
      exact h4 q (by omega) hgq
theorem p2_dis {p S : Nat} (h : S.testBit p = false) : dis (2 ^ p) S := fun i hi => by
  rw [Nat.testBit_two_pow, decide_eq_true_eq] at hi
  rw [← hi]; exact h
theorem wi_step (nr : Bool) {p : Nat} (hp : p < B.1 11) (hg : goodB B p = true) : (0 < mk B nr p → cL B (wiS B nr (idx B p)) = cL B (wiS B nr (idx B p + 1)) + cL B (2 ^ p) ∧ wiS B nr (idx B p) = wiS B nr (idx B p + 1) ||| 2 ^ p ∧ mkS B nr (wiS B nr (idx B p)) (B.1 11) = mkS B nr (wiS B nr (idx B p + 1)) (B.1 11) + mk B nr p) ∧ (¬ 0 < mk B nr p → wiS B nr (idx B p) = wiS B nr (idx B p + 1)) := by
  obtain ⟨e1, e2⟩ := wi_bit nr hp hg
  refine ⟨fun g => ?_, fun g => ?_⟩
  · rw [if_pos g] at e1
    rw [e1, cL_or (p2_dis e2), mS_or nr (p2_dis e2), mS_p2 nr p hp, Nat.or_comm, Nat.add_comm, Int.add_comm]
    exact ⟨rfl, rfl, rfl⟩
  · rw [if_neg g, Nat.zero_or] at e1
    exact e1
theorem lX0_sumUp (hv : InvB B) {nr : Bool} {I : Nat → Int32} {J : Nat → Int64} : ∀ k, k ≤ gN B → ∀ (R : Nat → Nat → Int32) (G : Nat → Nat → Int64), OfS B nr (B.1 11) I J R G → SuS B nr k R G → qX0_sumUp_47 (ChS B nr) (nI k - 1) I J R G
  | 0, hk, R, G, h, hs => kX0_sumUp_47 ⟨fun _ => ⟨h, hs⟩, fun c => absurd (by decide) c⟩
  | k + 1, hk, R, G, h, hs => by
    have hm := gN_le hv
    obtain ⟨p, hp, hg, ei⟩ := idx_at (B := B) (i := k) (by omega)
    have hn := hv.np
    obtain ⟨r3, g4, g5⟩ := h.2 p hp hg
    rw [ei] at r3 g4 g5
    obtain ⟨s6, s7, s8, s9⟩ := hs (k + 1) (Nat.le_refl _) hk
    have hb := mk_bd hv nr (p := p) (by omega)
    obtain ⟨w1, w2⟩ := wi_step nr hp hg
    rw [ei] at w1 w2
    obtain ⟨hh1, hh2⟩ := hi_bit hp hg
    rw [ei] at hh1 hh2
    have ehi : cL B (hiS B k) = cL B (hiS B (k + 1)) + cL B (2 ^ p) := by rw [hh1, cL_or (p2_dis hh2), Nat.add_comm]
    have v15 : vp_in (nI k) 15 := vp_in_nI (by omega) (by decide)
    have v14 : vp_in (nI k) 14 := vp_in_nI (by omega) (by decide)
    have v15' : vp_in (nI k + 1) 15 := by rw [nI_1]; exact vp_in_nI (by omega) (by decide)
    have ck : (nI k).toNatClampNeg = k := nI_clamp (by omega)
    have ck1 : (nI k + 1).toNatClampNeg = k + 1 := by rw [nI_1]; exact nI_clamp (by omega)
    have fin : ∀ (R' : Nat → Nat → Int32) (G' : Nat → Nat → Int64), R' 3 = R 3 → G' 4 = G 4 → G' 5 = G 5 → (∀ j, j ≠ k → R' 8 j = R 8 j ∧ G' 6 j = G 6 j ∧ G' 7 j = G 7 j ∧ G' 9 j = G 9 j) → G' 6 k = lN (cL B (hiS B k)) → G' 7 k = lN (cL B (wiS B nr k)) → R' 8 k = nI (wiS B nr k) → G' 9 k = lZ (mkS B nr (wiS B nr k) (B.1 11)) → qX0_sumUp_47 (ChS B nr) (nI k + -1) I J R' G' := fun R' G' a1 a2 a3 a4 a5 a6 a7 a8 => by
      rw [← Int32.sub_eq_add_neg]
      refine lX0_sumUp hv k (by omega) R' G' (h.keep a1 a2 a3) (fun j h1 h2 => ?_)
      by_cases e : j = k
      · subst e; exact ⟨a5, a6, a7, a8⟩
      · obtain ⟨b1, b2, b3, b4⟩ := a4 j e
        rw [b1, b2, b3, b4]
        exact hs j (by omega) h2
    rw [nI_pred]
    refine kX0_sumUp_47 ⟨fun c => absurd c (nI_pos (by omega)), fun _ => ⟨v14, ?_⟩⟩
    rw [ck, g5, lg_cmp_le, show (0 : Int64) = lZ 0 from rfl, lZ_le (by omega) (by omega) (by omega) (by omega)]
    refine ⟨fun c => kX0_sumUp_67 ⟨v15', v14, v15, fun _ => ?_, fun e => absurd rfl e⟩, fun c => kX0_sumUp_67 ⟨v15', v14, v15, fun e => absurd e (by decide), fun _ => ?_⟩⟩
    · have ew := w2 (by omega)
      refine kX0_sumUp_116 ⟨v15, v15', fun _ => kX0_sumUp_145 ⟨v15, v15', fun _ => kX0_sumUp_174 ⟨v15, ?_⟩, fun e => absurd rfl e⟩, fun e => absurd rfl e⟩
      rw [ck, ck1]
      refine fin _ _ rfl rfl rfl (fun j hj => ⟨?_, ?_, ?_, ?_⟩) ?_ ?_ ?_ ?_
      · show upd (R 8) k _ j = R 8 j; exact pk_un hj
      · show vp_updL (G 6) k _ j = G 6 j; exact pk_uLn hj
      · show vp_updL (G 7) k _ j = G 7 j; exact pk_uLn hj
      · show vp_updL (G 9) k _ j = G 9 j; exact pk_uLn hj
      · show vp_updL (G 6) k (G 6 (k + 1) + G 4 k) k = _
        rw [pk_uLs, s6, g4, lN_add, ehi]
      · show vp_updL (G 7) k (G 7 (k + 1) + 0) k = _
        rw [pk_uLs, s7, Int64.add_zero, ew]
      · show upd (R 8) k (R 8 (k + 1) ||| 0) k = _
        rw [pk_us, s8, show (0 : Int32) = nI 0 from rfl, tb_or, Nat.or_zero, ew]
      · show vp_updL (G 9) k (G 9 (k + 1) + 0) k = _
        rw [pk_uLs, s9, Int64.add_zero, ew]
    · obtain ⟨e1, e2, e3⟩ := w1 (by omega)
      refine kX0_sumUp_116 ⟨v15, v15', fun e => absurd e (by decide), fun _ => ⟨v14, kX0_sumUp_145 ⟨v15, v15', fun e => absurd e (by decide), fun _ => ⟨v14, kX0_sumUp_174 ⟨v15, ?_⟩⟩⟩⟩⟩
      rw [ck, ck1]
      refine fin _ _ rfl rfl rfl (fun j hj => ⟨?_, ?_, ?_, ?_⟩) ?_ ?_ ?_ ?_
      · show upd (R 8) k _ j = R 8 j; exact pk_un hj
      · show vp_updL (G 6) k _ j = G 6 j; exact pk_uLn hj
      · show vp_updL (G 7) k _ j = G 7 j; exact pk_uLn hj
      · show vp_updL (G 9) k _ j = G 9 j; exact pk_uLn hj
      · show vp_updL (G 6) k (G 6 (k + 1) + G 4 k) k = _
        rw [pk_uLs, s6, g4, lN_add, ehi]
      · show vp_updL (G 7) k (G 7 (k + 1) + G 4 k) k = _
        rw [pk_uLs, s7, g4, lN_add, e1]
      · show upd (R 8) k (R 8 (k + 1) ||| R 3 k) k = _
        rw [pk_us, s8, r3, tb_or, e2]
      · show vp_updL (G 9) k (G 9 (k + 1) + G 5 k) k = _
        rw [pk_uLs, s9, g5, lZ_add, e3]
theorem sX0_sumUp (hv : InvB B) {nr : Bool} {I : Nat → Int32} {J : Nat → Int64} {R : Nat → Nat → Int32} {G : Nat → Nat → Int64} (h : OfS B nr (B.1 11) I J R G) : qX0_sumUp (ChS B nr) I J R G := by
  have hm := gN_le hv
  have h2 : I 2 = nI (gN B) := h.1.2.2.1
  unfold qX0_sumUp
  rw [h2, nI_clamp (by omega)]
  refine ⟨vp_in_nI (by omega) (by decide), fun x1 e1 => ?_⟩
  rw [e1]
  refine lX0_sumUp hv (gN B) (Nat.le_refl _) _ _ (h.keep rfl rfl rfl) (fun j h1 h9 => ?_)
  have : j = gN B := by omega
  subst this
  show vp_updL (G 6) (gN B) 0 (gN B) = _ ∧ vp_updL (G 7) (gN B) 0 (gN B) = _ ∧ upd (R 8) (gN B) 0 (gN B) = _ ∧ vp_updL (G 9) (gN B) 0 (gN B) = _
  rw [pk_uLs, pk_uLs, pk_us, pk_uLs, hi_full, wi_full, cL_0, mS_0]
  exact ⟨rfl, rfl, rfl, rfl⟩
end
section
variable {I : Nat → Int32} {R : Nat → Nat → Int32} {CI : Nat → Int32} {CJ : Nat → Int64} {CR : Nat → Nat → Int32} {CG : Nat → Nat → Int64} {EI : Nat → Int32} {ER : Nat → Nat → Int32} {Eq En : Nat} {V : vS} {B : Bk} {lt : Nat}
def nrV (nr : Bool) : Int := if nr then 4294967296 else 0
theorem lX3_offer (h : RCc I R EI ER En V B lt) (hv : InvB B) (nr : Bool) {post : (Nat → Int32) → (Nat → Nat → Int32) → (Nat → Int32) → (Nat → Int64) → (Nat → Nat → Int32) → (Nat → Nat → Int64) → (Nat → Int32) → (Nat → Nat → Int32) → Nat → Nat → vS → Prop} (hpost : ∀ (CI : Nat → Int32) (CJ : Nat → Int64) (CR : Nat → Nat → Int32) (CG : Nat → Nat → Int64), ChS B nr CI CJ CR CG → post I R CI CJ CR CG EI ER Eq En V) :
    ∀ m p, p + m = B.1 11 → ∀ (CI : Nat → Int32) (CJ : Nat → Int64) (CR : Nat → Nat → Int32) (CG : Nat → Nat → Int64), OfS B nr p CI CJ CR CG → qX3_offerPictures_21 post (lZ (nrV nr)) (nI p) I R CI CJ CR CG EI ER Eq En V
  | 0, p, e, CI, CJ, CR, CG, ho => by
    have hn := hv.np
    have e : p = B.1 11 := by omega
    subst e
    refine kX3_offerPictures_21 ⟨fun _ => ⟨_, sX0_sumUp hv ho, fun CI2 CJ2 CR2 CG2 hq => hpost CI2 CJ2 CR2 CG2 hq⟩, fun c => ?_⟩
    rw [h.i4, nI_leI (by omega) (by omega)] at c
    omega
  | m + 1, p, e, CI, CJ, CR, CG, ho => by
    have hn := hv.np
    have hs := seenB_lt hv p
    refine kX3_offerPictures_21 ⟨fun c => ?_, fun _ => ⟨_, sX3_shownIn h hv (p := p) (by omega), fun rc hrc => ⟨fun c => ?_, fun c => ⟨_, sX3_worthOf h hv (p := p) (by omega), fun rc4 hrc4 x5 e5 => ⟨_, sX3_isChosen h hv (p := p) (by omega), fun rc6 hrc6 => ?_⟩⟩⟩⟩⟩
    · rw [h.i4, nI_leI (by omega) (by omega)] at c
      omega
    · rw [hrc, nI_z (by omega), seenB_0] at c
      rw [nI_1]
      refine lX3_offer h hv nr hpost m (p + 1) (by omega) CI CJ CR CG ⟨⟨ho.1.1, ho.1.2.1, ?_, ?_⟩, fun q hq hgq => ?_⟩
      · rw [idx_succ, c, if_neg (by decide)]; exact ho.1.2.2.1
      · rw [orN, (seenB_0 p).mpr c, Nat.or_zero]; exact ho.1.2.2.2
      · by_cases e : q = p
        · rw [e, c] at hgq; cases hgq
        · exact ho.2 q (by omega) hgq
    · rw [hrc, nI_z (by omega), seenB_0] at c
      have hg := of_not_false c
      have hw := hv.worth p
      have e5 : x5 = lZ ((B.2 4 p : Int) * 262144 - 16384 - 2 ^ p) := by
        rw [e5, hrc4, nI_l (by omega), show (262144 : Int64) = lZ 262144 from rfl, show (16384 : Int64) = lZ 16384 from rfl, show (1 : Int64) = lN 1 from rfl, wb_shl 1 (by omega), Nat.one_mul, lZ_nat, lZ_nat, lZ_mul, lZ_sub, lZ_sub, pow_int]
      have step : ∀ z : Int, ((B.2 4 p : Int) * 262144 - 16384 - 2 ^ p) + z = mk B nr p → qX3_offerPictures_86 post (lZ (nrV nr)) (nI p) (lZ z) x5 rc ((1 : Int32) <<< (nI p &&& 31)) I R CI CJ CR CG EI ER Eq En V := fun z ez => by
        refine kX3_offerPictures_86 ?_
        rw [e5, lZ_add, ez, hrc, tb_shl _ (by omega), nI_1]
        exact ⟨_, sX0_offer hv (by omega) hg ho, fun CI2 CJ2 CR2 CG2 hq => lX3_offer h hv nr hpost m (p + 1) (by omega) CI2 CJ2 CR2 CG2 hq⟩
      rw [hrc6]
      refine ⟨fun c6 => ?_, fun c6 => step (nrV nr) ?_⟩
      · rw [b2i_0] at c6
        rw [lZ_neg]
        refine step (-nrV nr) ?_
        unfold mk nrV
        cases nr
        · simp
        · simp [c6]
      · rw [b2i_n0] at c6
        unfold mk nrV
        cases nr
        · simp
        · simp [c6]
theorem sX3_offer (h : RCc I R EI ER En V B lt) (hv : InvB B) (nr : Bool) {post : (Nat → Int32) → (Nat → Nat → Int32) → (Nat → Int32) → (Nat → Int64) → (Nat → Nat → Int32) → (Nat → Nat → Int64) → (Nat → Int32) → (Nat → Nat → Int32) → Nat → Nat → vS → Prop} (hpost : ∀ (CI : Nat → Int32) (CJ : Nat → Int64) (CR : Nat → Nat → Int32) (CG : Nat → Nat → Int64), ChS B nr CI CJ CR CG → post I R CI CJ CR CG EI ER Eq En V) : qX3_offerPictures post (lZ (nrV nr)) I R CI CJ CR CG EI ER Eq En V := by
  refine ⟨OfS B nr 0, ?_, fun CI2 CJ2 CR2 CG2 hq => lX3_offer h hv nr hpost _ 0 (Nat.zero_add _) CI2 CJ2 CR2 CG2 hq⟩
  refine ⟨⟨?_, ?_, rfl, ?_⟩, fun q hq => absurd hq (Nat.not_lt_zero q)⟩
  · exact h.low
  · exact h.high
  · show (-1 : Int64) = lN (dsum 4 (ncU 0) 16)
    decide +kernel
end
