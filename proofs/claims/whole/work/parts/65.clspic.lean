/-! the class's picture -/
def PicF (I : Nat → Int32) (R : Nat → Nat → Int32) (B : Bk) (p : Nat) : Prop := I 0 = nI (B.2 3 p) ∧ I 1 = nI (B.2 4 p) ∧ I 2 = nI (B.2 5 p) ∧ I 3 = nI (B.2 6 p) ∧ ∀ f, f < B.2 6 p → R 4 f = nI (B.2 7 (8 * p + f)) ∧ R 5 f = nI (B.2 8 (8 * p + f)) ∧ R 6 f = nI (B.2 9 (8 * p + f)) ∧ R 7 f = nI (B.2 10 (8 * p + f))
def PicR (I : Nat → Int32) (R : Nat → Nat → Int32) (B : Bk) (p : Nat) : Prop := PicF I R B p ∧ I 8 = nI (allow B p) ∧ I 9 = nI (seenB B p) ∧ (anyM B p = true → ∀ side, side < 4 → R 10 side = iI (cutB B p side))
section
variable {I : Nat → Int32} {R R0 : Nat → Nat → Int32} {B : Bk} {p : Nat}
theorem PicF.cg (h : PicF I R B p) {f : Nat} (hf : f < B.2 6 p) : R 5 f - R 7 f = iI (cg B p 0 f) ∧ R 6 f - R 7 f = iI (cg B p 1 f) ∧ R 5 f + R 7 f = iI (cg B p 2 f) ∧ R 6 f + R 7 f = iI (cg B p 3 f) := by
  obtain ⟨-, h5, h6, h7⟩ := h.2.2.2.2 f hf
  rw [h5, h6, h7, iI_nat, iI_nat, iI_nat, iI_sub, iI_sub, iI_add, iI_add]
  exact ⟨rfl, rfl, rfl, rfl⟩
theorem PicF.upR (h : PicF I R B p) (c : Nat → Int32) : PicF I (va_up R 10 c) B p := h
theorem PicF.up8 (h : PicF I R B p) (v : Int32) : PicF (va_up I 8 v) R B p := h
theorem PicF.up9 (h : PicF I R B p) (v : Int32) : PicF (va_up I 9 v) R B p := h
theorem allow_tb (hv : InvB B) (p f : Nat) (hf : f < B.2 6 p) : (allow B p).testBit f = may B p f := by
  unfold allow
  rw [bitsF_tb]
  simp [hf]
theorem allow_lt (hv : InvB B) (p : Nat) : allow B p < 2 ^ 8 := Nat.lt_of_lt_of_le (bitsF_lt _ _) (Nat.pow_le_pow_right (by decide) (hv.nf p))
theorem iI_ite {a b : Int} (c d : Int) (a1 : -2147483648 ≤ a) (a2 : a < 2147483648) (b1 : -2147483648 ≤ b) (b2 : b < 2147483648) : (if iI a < iI b then iI c else iI d) = iI (if a < b then c else d) := by
  have e := iI_lt a1 a2 b1 b2
  by_cases h : a < b
  · rw [if_pos h, if_pos (e.mpr h)]
  · rw [if_neg h, if_neg (fun q => h (e.mp q))]
theorem lX2_frame (hv : InvB B) (h8 : I 8 = nI (allow B p)) : ∀ n f, f + n = B.2 6 p → ∀ R : Nat → Nat → Int32, PicF I R B p → (∀ j, j ≠ 10 → R j = R0 j) → (∀ side, side < 4 → R 10 side = iI (cutN B p side f)) → qX2_frame_38 (fun I' R' => I' = I ∧ PicF I R' B p ∧ (∀ j, j ≠ 10 → R' j = R0 j) ∧ ∀ side, side < 4 → R' 10 side = iI (cutB B p side)) (nI f) I R
  | 0, f, e, R, h, hR, hc => by
    have hnf := hv.nf p
    refine kX2_frame_38 ⟨fun _ => ?_, fun c => ?_⟩
    · have e : f = B.2 6 p := by omega
      subst e
      exact ⟨rfl, h, hR, hc⟩
    · rw [h.2.2.2.1, nI_leI (by omega) (by omega)] at c
      omega
  | n + 1, f, e, R, h, hR, hc => by
    have hnf := hv.nf p
    have hal := allow_lt hv p
    have hf : f < B.2 6 p := by omega
    refine kX2_frame_38 ⟨fun c => ?_, fun _ => ⟨fun c => ?_, fun c => ⟨vp_in_nI (by omega) (by decide), ?_⟩⟩⟩
    · rw [h.2.2.2.1, nI_leI (by omega) (by omega)] at c
      omega
    · rw [h8, tb_0 (by omega) (by omega), allow_tb hv p f hf] at c
      rw [nI_1]
      exact lX2_frame hv h8 n (f + 1) (by omega) R h hR (fun side hs => by rw [cutN_no c]; exact hc side hs)
    · rw [h8, tb_0 (by omega) (by omega), allow_tb hv p f hf] at c
      have hm : may B p f = true := of_not_false c
      rw [nI_clamp (by omega)]
      obtain ⟨g0, g1, g2, g3⟩ := h.cg hf
      rw [g0, g1, g2, g3, hc 0 (by decide)]
      have b0 := cg_bd hv p 0 f
      have b1 := cg_bd hv p 1 f
      have b2 := cg_bd hv p 2 f
      have b3 := cg_bd hv p 3 f
      have d0 := cutN_bd hv p 0 f
      have d1 := cutN_bd hv p 1 f
      have d2 := cutN_bd hv p 2 f
      have d3 := cutN_bd hv p 3 f
      intro v2 e2 v3 e3 v4 e4 v5 e5 v6 e6 v7 e7 v8 e8
      have e3 : v3 = iI (cutN B p 1 f) := e3.trans (hc 1 (by decide))
      have e5 : v5 = iI (cutN B p 2 f) := e5.trans (hc 2 (by decide))
      have e7 : v7 = iI (cutN B p 3 f) := e7.trans (hc 3 (by decide))
      rw [e3, iI_ite _ _ (by omega) (by omega) (by omega) (by omega), ← cutN_lo (by decide) hm] at e4
      rw [e5, iI_ite _ _ (by omega) (by omega) (by omega) (by omega), ← cutN_hi (by decide) hm] at e6
      rw [e7, iI_ite _ _ (by omega) (by omega) (by omega) (by omega), ← cutN_hi (by decide) hm] at e8
      rw [iI_ite _ _ (by omega) (by omega) (by omega) (by omega), ← cutN_lo (by decide) hm] at e2
      rw [nI_1]
      refine lX2_frame hv h8 n (f + 1) (by omega) _ (h.upR _) (fun j hj => by rw [vu_ne hj]; exact hR j hj) (fun side hs => ?_)
      rw [vu_eq]
      match side, hs with
      | 0, _ => exact e2
      | 1, _ => exact e4
      | 2, _ => exact e6
      | 3, _ => exact e8
theorem sX2_frame (hv : InvB B) (h : PicF I R B p) (h8 : I 8 = nI (allow B p)) : qX2_frame (fun I' R' => I' = I ∧ PicF I R' B p ∧ (∀ j, j ≠ 10 → R' j = R j) ∧ ∀ side, side < 4 → R' 10 side = iI (cutB B p side)) I R := by
  refine lX2_frame hv h8 _ 0 (Nat.zero_add _) _ (h.upR _) (fun j hj => vu_ne hj) (fun side hs => ?_)
  rw [vu_eq]
  match side, hs with
  | 0, _ => rfl
  | 1, _ => rfl
  | 2, _ => rfl
  | 3, _ => rfl
theorem lX2_touch (hv : InvB B) (h : PicF I R B p) (h8 : I 8 = nI (allow B p)) (hc : ∀ side, side < 4 → R 10 side = iI (cutB B p side)) : ∀ n f, f + n = B.2 6 p → bad B p f = false → qX2_anotherTouchesCut_2 (fun r => r = b2i (bad B p (B.2 6 p))) I R (nI f)
  | 0, f, e, hb => by
    have hnf := hv.nf p
    refine kX2_anotherTouchesCut_2 ⟨fun _ => ?_, fun c => ?_⟩
    · have e : f = B.2 6 p := by omega
      subst e
      show (0 : Int32) = b2i (bad B p (B.2 6 p))
      rw [hb]
      rfl
    · rw [h.2.2.2.1, nI_leI (by omega) (by omega)] at c
      omega
  | n + 1, f, e, hb => by
    have hnf := hv.nf p
    have hal := allow_lt hv p
    have hf : f < B.2 6 p := by omega
    have b0 := cg_bd hv p 0 f
    have b1 := cg_bd hv p 1 f
    have b2 := cg_bd hv p 2 f
    have b3 := cg_bd hv p 3 f
    have d0 := cutN_bd hv p 0 (B.2 6 p)
    have d1 := cutN_bd hv p 1 (B.2 6 p)
    have d2 := cutN_bd hv p 2 (B.2 6 p)
    have d3 := cutN_bd hv p 3 (B.2 6 p)
    have e0 : R 10 0 = iI (cutN B p 0 (B.2 6 p)) := hc 0 (by decide)
    have e1 : R 10 1 = iI (cutN B p 1 (B.2 6 p)) := hc 1 (by decide)
    have e2 : R 10 2 = iI (cutN B p 2 (B.2 6 p)) := hc 2 (by decide)
    have e3 : R 10 3 = iI (cutN B p 3 (B.2 6 p)) := hc 3 (by decide)
    have ht : touch B p f = true ↔ (cg B p 0 f ≤ cutN B p 2 (B.2 6 p) ∧ cutN B p 0 (B.2 6 p) ≤ cg B p 2 f ∧ cg B p 1 f ≤ cutN B p 3 (B.2 6 p) ∧ cutN B p 1 (B.2 6 p) ≤ cg B p 3 f) := by
      unfold touch cutB
      simp only [Bool.and_eq_true, decide_eq_true_eq]
    have next : (!may B p f && touch B p f) = false → qX2_anotherTouchesCut_2 (fun r => r = b2i (bad B p (B.2 6 p))) I R (nI f + 1) := by
      intro hz
      rw [nI_1]
      exact lX2_touch hv h h8 hc n (f + 1) (by omega) (by unfold bad at hb ⊢; rw [anyF, hb, hz]; rfl)
    have no : ¬ touch B p f = true → qX2_anotherTouchesCut_2 (fun r => r = b2i (bad B p (B.2 6 p))) I R (nI f + 1) := fun hn => next (by rw [of_not_true hn, Bool.and_false])
    refine kX2_anotherTouchesCut_2 ⟨fun c => ?_, fun _ => ⟨fun c => ?_, fun c => ⟨vp_in_nI (by omega) (by decide), ?_⟩⟩⟩
    · rw [h.2.2.2.1, nI_leI (by omega) (by omega)] at c
      omega
    · rw [h8, tb_0 (by omega) (by omega), allow_tb hv p f hf] at c
      exact next (by rw [of_not_false c]; rfl)
    · rw [h8, tb_0 (by omega) (by omega), allow_tb hv p f hf] at c
      rw [nI_clamp (by omega)]
      obtain ⟨g0, g1, g2, g3⟩ := h.cg hf
      rw [g0, g1, g2, g3, e0, e1, e2, e3, iI_lt (by omega) (by omega) (by omega) (by omega), iI_lt (by omega) (by omega) (by omega) (by omega), iI_lt (by omega) (by omega) (by omega) (by omega), iI_lt (by omega) (by omega) (by omega) (by omega)]
      refine ⟨fun c1 => no (by rw [ht]; omega), fun c1 => ⟨fun c2 => no (by rw [ht]; omega), fun c2 => ⟨fun c3 => no (by rw [ht]; omega), fun c3 => ⟨fun c4 => no (by rw [ht]; omega), fun c4 => ?_⟩⟩⟩⟩
      have hbad : bad B p (B.2 6 p) = true := (anyF_iff _ _).mpr ⟨f, by omega, by rw [c, ht.mpr (by omega)]; rfl⟩
      show (1 : Int32) = b2i (bad B p (B.2 6 p))
      rw [hbad]
      rfl
theorem seenB_eq (p : Nat) : seenB B p = if bad B p (B.2 6 p) then 0 else shownB B p := by
  unfold seenB goodB
  cases hb : bad B p (B.2 6 p)
  · cases ha : anyM B p
    · have : shownB B p = 0 := (orF_0 _ _ _).mpr ha
      simp [this]
    · simp
  · simp
theorem lX2_look (hv : InvB B) {cn : Nat → Int32} (hcn : ∀ c, cn c = nI (B.2 1 c)) : ∀ n f, f + n = B.2 6 p → ∀ I : Nat → Int32, PicF I R B p → I 8 = nI (bitsF (may B p) f) → qX2_look_9 (fun I' R' => PicR I' R' B p) cn (nI (orF (may B p) (fun f => B.2 7 (8 * p + f)) f)) (nI f) I R
  | 0, f, e, I, h, h8 => by
    have hnf := hv.nf p
    refine kX2_look_9 ⟨fun _ => ?_, fun c => ?_⟩
    · have e : f = B.2 6 p := by omega
      subst e
      refine ⟨_, sX2_frame hv h h8, fun I1 R1 hq => ?_⟩
      obtain ⟨rfl, h1, -, hcut⟩ := hq
      refine ⟨_, lX2_touch hv h1 h8 hcut _ 0 (Nat.zero_add _) rfl, fun rc hrc => ⟨fun c => ?_, fun c => ?_⟩⟩
      · rw [hrc, b2i_0] at c
        refine kX2_look_93 ⟨h1.up9 _, h8, ?_, fun _ => hcut⟩
        rw [vu_eq, seenB_eq, c]
        rfl
      · rw [hrc, b2i_n0] at c
        refine kX2_look_93 ⟨h1.up9 _, h8, ?_, fun _ => hcut⟩
        rw [vu_eq, seenB_eq, c]
        rfl
    · rw [h.2.2.2.1, nI_leI (by omega) (by omega)] at c
      omega
  | n + 1, f, e, I, h, h8 => by
    have hnf := hv.nf p
    have hf : f < B.2 6 p := by omega
    have hw := hv.who (8 * p + f)
    have hcc := hv.cons (B.2 7 (8 * p + f))
    have hk := hv.kind p
    have hbt := bitsF_lt (may B p) f
    refine kX2_look_9 ⟨fun c => ?_, fun _ => ⟨vp_in_nI (by omega) (by decide), fun x4 e4 => ?_⟩⟩
    · rw [h.2.2.2.1, nI_leI (by omega) (by omega)] at c
      omega
    · rw [nI_clamp (by omega), (h.2.2.2.2 f hf).1] at e4
      subst e4
      refine ⟨fun c => absurd c (nI_pos (by omega)), fun _ => ⟨fun c => ?_, fun _ => ⟨vp_in_nI hw (by decide), ?_⟩⟩⟩
      · rw [show (16 : Int32) = nI 16 from rfl, nI_leI (by omega) (by omega)] at c
        omega
      · rw [nI_clamp (by omega), hcn, h.1, tb_0 (by omega) (by omega)]
        refine ⟨fun c => ?_, fun c x2 e2 => ?_⟩
        · have hm : may B p f = false := c
          have ih := lX2_look hv hcn n (f + 1) (by omega) I h (by rw [bitsF, if_neg (by rw [hm]; decide), Nat.or_zero]; exact h8)
          rw [← nI_1, orF, if_neg (by rw [hm]; decide), Nat.or_zero] at ih
          exact ih
        · have hm : may B p f = true := of_not_false c
          have ih := lX2_look hv hcn n (f + 1) (by omega) (va_up I 8 (I 8 ||| ((1 : Int32) <<< (nI f &&& 31)))) (h.up8 _) (by rw [vu_eq, h8, tb_shl _ (by omega), tb_or, bitsF, if_pos hm])
          rw [← nI_1, orF, if_pos hm] at ih
          rw [e2, tb_shl _ (by omega), tb_or]
          exact ih
theorem sX2_look (hv : InvB B) {cn : Nat → Int32} (hcn : ∀ c, cn c = nI (B.2 1 c)) (h : PicF I R B p) : qX2_look (fun I' R' => PicR I' R' B p) cn I R :=
  lX2_look hv hcn _ 0 (Nat.zero_add _) _ (h.up8 _) rfl
/-- the cut's sides as answers -/
def edgeI (B : Bk) (p : Nat) (j : Int32) : Int32 := if anyM B p then (if j < 0 then -1 else if j < 4 then iI (cutB B p j.toNatClampNeg) else -1) else -1
theorem allow_0 (p : Nat) : allow B p = 0 ↔ anyM B p = false := bitsF_0 _ _
theorem sX2_edge (hv : InvB B) (h : PicR I R B p) (j : Int32) : qX2_edge (fun r => r = edgeI B p j) j I R := by
  have hal := allow_lt hv p
  have h0 : I 8 = 0 ↔ anyM B p = false := by
    rw [h.2.1, ← allow_0]
    exact nI_eq (b := 0) (by omega) (by decide)
  unfold edgeI
  refine ⟨fun c => ?_, fun c => ⟨fun c1 => ?_, fun c1 => ⟨fun c2 => ?_, fun c2 => ?_⟩⟩⟩
  · rw [h0] at c
    rw [c]; rfl
  · rw [h0] at c
    rw [of_not_false c, if_pos rfl, if_pos c1]
  · rw [h0] at c
    have hj : j.toNatClampNeg < 4 := by
      obtain ⟨n, hn, rfl⟩ := nI_of c1
      rw [show (4 : Int32) = nI 4 from rfl, nI_ltI hn (by decide)] at c2
      rw [nI_clamp hn]
      exact c2
    refine ⟨fun hh => hh.elim c1 (fun h9 => by omega), ?_⟩
    rw [of_not_false c, if_pos rfl, if_neg c1, if_pos c2]
    exact h.2.2.2 (of_not_false c) _ hj
  · rw [h0] at c
    rw [of_not_false c, if_pos rfl, if_neg c1, if_neg c2]
end
