/-! the reference: may, cutOf, isGood, seenIn, good, shown, sum -/
theorem nI_mul (a b : Nat) : nI a * nI b = nI (a * b) := (Int32.ofNat_mul a b).symm
theorem at8 (p f : Nat) : (8 : Int32) * nI p + nI f = nI (8 * p + f) := by
  show nI 8 * nI p + nI f = _
  rw [nI_mul, nI_add]
theorem in112 {p f : Nat} (hp : p < 14) (hf : f < 8) : vp_in (nI (8 * p + f)) 112 := vp_in_nI (by omega) (by decide)
theorem ite10 {b : Bool} : ((if b then (1 : Int32) else 0) = 0) ↔ b = false := by cases b <;> simp
section
variable {I : Nat → Int32} {R : Nat → Nat → Int32} {B : Bk}
theorem sX4_may (h : RM I R B) (hv : InvB B) {p f : Nat} (hp : p < 14) (hf : f < 8) : qX4_may (fun r => r = if may B p f then 1 else 0) (nI p) (nI f) I R := by
  unfold qX4_may
  rw [at8]
  have hw := hv.who (8 * p + f)
  have hc := hv.cons (B.2 7 (8 * p + f))
  have hk := hv.kind p
  rw [nI_clamp (by omega), h.r7, nI_clamp (by omega), h.r1, nI_clamp (by omega), h.r3]
  refine ⟨in112 hp hf, vp_in_nI hw (by decide), vp_in_nI hp (by decide), fun c => ?_, fun c => ?_⟩
  · rw [tb_1 (by omega) (by omega)] at c
    show (0 : Int32) = if may B p f then 1 else 0
    unfold may
    rw [if_neg c]
  · rw [tb_1 (by omega) (by omega)] at c
    show (1 : Int32) = if may B p f then 1 else 0
    unfold may
    rw [if_pos c]
/-- the cut as far as n faces -/
def cutAt (B : Bk) (p n : Nat) (R : Nat → Nat → Int32) : Prop := anyF (may B p) n = true → ∀ side, side < 4 → R 20 side = iI (cutN B p side n)
theorem cutN_no {p side n : Nat} (h : may B p n = false) : cutN B p side (n + 1) = cutN B p side n := by
  unfold cutN
  simp only [mnF, mxF, h]
  rfl
theorem cutN_lo {p side n : Nat} (hs : side < 2) (h : may B p n = true) : cutN B p side (n + 1) = if cg B p side n < cutN B p side n then cg B p side n else cutN B p side n := by
  unfold cutN
  simp only [mnF, h, hs, if_true]
theorem cutN_hi {p side n : Nat} (hs : ¬ side < 2) (h : may B p n = true) : cutN B p side (n + 1) = if cutN B p side n < cg B p side n then cg B p side n else cutN B p side n := by
  unfold cutN
  simp only [mxF, h, hs, if_true, if_false]
theorem cutN_none (hv : InvB B) {p side n : Nat} (hs : side < 4) (h : may B p n = true) (ha : anyF (may B p) n = false) : cutN B p side (n + 1) = cg B p side n := by
  have hb := cg_bd hv p side n
  by_cases h2 : side < 2
  · rw [cutN_lo h2 h]
    have : cutN B p side n = 1000 := by unfold cutN; rw [if_pos h2, mnF_no n ha]
    rw [this, if_pos (by omega)]
  · rw [cutN_hi h2 h]
    have : cutN B p side n = -1000 := by unfold cutN; rw [if_neg h2, mxF_no n ha]
    rw [this, if_pos (by omega)]
theorem cgI (h : RM I R B) (p f : Nat) : R 8 (8 * p + f) - R 10 (8 * p + f) = iI (cg B p 0 f) ∧ R 9 (8 * p + f) - R 10 (8 * p + f) = iI (cg B p 1 f) ∧ R 8 (8 * p + f) + R 10 (8 * p + f) = iI (cg B p 2 f) ∧ R 9 (8 * p + f) + R 10 (8 * p + f) = iI (cg B p 3 f) := by
  rw [h.r8, h.r9, h.r10, iI_nat, iI_nat, iI_nat, iI_sub, iI_sub, iI_add, iI_add]
  exact ⟨rfl, rfl, rfl, rfl⟩
theorem narrow01 (b : Bool) : narrow .boolean (.int (if b then 1 else 0)) = .int (if b then 1 else 0) := by cases b <;> rfl
def pCut (B : Bk) (p : Nat) (I0 : Nat → Int32) (R0 : Nat → Nat → Int32) : Int32 → (Nat → Int32) → (Nat → Nat → Int32) → Prop := fun r I R => r = (if anyM B p then 1 else 0) ∧ I = I0 ∧ RM I0 R B ∧ (∀ j, j ≠ 20 → R j = R0 j) ∧ cutAt B p (B.2 6 p) R
theorem lX4_cutOf (hv : InvB B) {p : Nat} (hp : p < 14) {R0 : Nat → Nat → Int32} : ∀ n f, f + n = B.2 6 p → ∀ R : Nat → Nat → Int32, RM I R B → (∀ j, j ≠ 20 → R j = R0 j) → cutAt B p f R → qX4_cutOf_4 (pCut B p I R0) (nI p) (if anyF (may B p) f then 1 else 0) (nI f) I R
  | 0, f, e, R, h, hR, hc => by
    have hnf := hv.nf p
    refine kX4_cutOf_4 ⟨vp_in_nI hp (by decide), fun _ => ⟨narrow01 _, ?_⟩, fun c => ?_⟩
    · have e : f = B.2 6 p := by omega
      subst e
      exact ⟨rfl, rfl, h, hR, hc⟩
    · rw [nI_clamp (by omega), h.r6, nI_leI (by omega) (by omega)] at c
      omega
  | n + 1, f, e, R, h, hR, hc => by
    have hnf := hv.nf p
    have hf : f < 8 := by omega
    refine kX4_cutOf_4 ⟨vp_in_nI hp (by decide), fun c => ?_, fun _ => ⟨_, sX4_may h hv hp hf, fun rc hrc => ⟨fun hm => ?_, fun hm => ?_⟩⟩⟩
    · rw [nI_clamp (by omega), h.r6, nI_leI (by omega) (by omega)] at c
      omega
    · rw [hrc, ite10] at hm
      have hm : may B p f = true := by simpa using hm
      intro x4 e4
      rw [at8] at e4
      subst e4
      refine ⟨in112 hp hf, ?_⟩
      rw [nI_clamp (by omega)]
      obtain ⟨g0, g1, g2, g3⟩ := cgI h p f
      rw [g0, g1, g2, g3]
      intro x5 e5 x6 e6 x7 e7 x8 e8
      subst e5 e6 e7 e8
      have ha : anyF (may B p) (f + 1) = true := by rw [anyF, hm, Bool.or_true]
      have hx : ((if anyF (may B p) f then 1 else 0 : Int32) = 0) ↔ anyF (may B p) f = false := ite10
      generalize (if anyF (may B p) f then 1 else 0 : Int32) = x2 at hx ⊢
      have b0 := cg_bd hv p 0 f
      have b1 := cg_bd hv p 1 f
      have b2 := cg_bd hv p 2 f
      have b3 := cg_bd hv p 3 f
      have d0 := cutN_bd hv p 0 f
      have d1 := cutN_bd hv p 1 f
      have d2 := cutN_bd hv p 2 f
      have d3 := cutN_bd hv p 3 f
      have h229 : ∀ R1 : Nat → Nat → Int32, RM I R1 B → (∀ j, j ≠ 20 → R1 j = R0 j) → R1 20 0 = iI (cutN B p 0 (f + 1)) → R1 20 1 = iI (cutN B p 1 (f + 1)) → R1 20 2 = iI (cutN B p 2 (f + 1)) → qX4_cutOf_229 (pCut B p I R0) (nI p) (nI f) (iI (cutN B p 3 (f + 1))) I R1 := by
        intro R1 h1 h2 z0 z1 z2
        refine kX4_cutOf_229 ?_
        have ih := lX4_cutOf hv hp (R0 := R0) n (f + 1) (by omega) (va_up R1 20 (upd (R1 20) 3 (iI (cutN B p 3 (f + 1))))) (h1.upR (by decide) _) (fun j hj => by rw [vu_ne hj]; exact h2 j hj) (fun _ side hs => by
          rw [vu_eq]
          match side, hs with
          | 0, _ => exact z0
          | 1, _ => exact z1
          | 2, _ => exact z2
          | 3, _ => rfl)
        rw [ha, ← nI_1] at ih
        exact ih
      have h197 : ∀ R1 : Nat → Nat → Int32, RM I R1 B → (∀ j, j ≠ 20 → R1 j = R0 j) → R1 20 0 = iI (cutN B p 0 (f + 1)) → R1 20 1 = iI (cutN B p 1 (f + 1)) → (anyF (may B p) f = true → R1 20 3 = iI (cutN B p 3 f)) → qX4_cutOf_197 (pCut B p I R0) (nI p) x2 (nI f) (iI (cg B p 3 f)) (iI (cutN B p 2 (f + 1))) I R1 := by
        intro R1 h1 h2 z0 z1 z3
        have k := h229 (va_up R1 20 (upd (R1 20) 2 (iI (cutN B p 2 (f + 1))))) (h1.upR (by decide) _) (fun j hj => by rw [vu_ne hj]; exact h2 j hj) (by rw [vu_eq]; exact z0) (by rw [vu_eq]; exact z1) (by rw [vu_eq]; rfl)
        refine kX4_cutOf_197 ⟨fun c => ?_, fun c v ev => ?_⟩
        · rw [hx] at c
          rw [cutN_none hv (by decide) hm c] at k
          exact k
        · rw [hx] at c
          have c : anyF (may B p) f = true := by simpa using c
          have ev : v = iI (cutN B p 3 f) := by rw [ev]; exact z3 c
          rw [cutN_hi (by decide) hm] at k
          refine ⟨fun c2 v2 ev2 => ?_, fun c2 => ?_⟩
          · have ev2 : v2 = iI (cutN B p 3 f) := by rw [ev2]; exact z3 c
            rw [ev, iI_le (by omega) (by omega) (by omega) (by omega)] at c2
            rw [if_neg (by omega)] at k
            rw [ev2]
            exact k
          · rw [ev, iI_le (by omega) (by omega) (by omega) (by omega)] at c2
            rw [if_pos (by omega)] at k
            exact k
      have h165 : ∀ R1 : Nat → Nat → Int32, RM I R1 B → (∀ j, j ≠ 20 → R1 j = R0 j) → R1 20 0 = iI (cutN B p 0 (f + 1)) → (anyF (may B p) f = true → R1 20 2 = iI (cutN B p 2 f)) → (anyF (may B p) f = true → R1 20 3 = iI (cutN B p 3 f)) → qX4_cutOf_165 (pCut B p I R0) (nI p) x2 (nI f) (iI (cg B p 2 f)) (iI (cg B p 3 f)) (iI (cutN B p 1 (f + 1))) I R1 := by
        intro R1 h1 h2 z0 z2 z3
        have k := h197 (va_up R1 20 (upd (R1 20) 1 (iI (cutN B p 1 (f + 1))))) (h1.upR (by decide) _) (fun j hj => by rw [vu_ne hj]; exact h2 j hj) (by rw [vu_eq]; exact z0) (by rw [vu_eq]; rfl) (fun c => by rw [vu_eq]; exact z3 c)
        refine kX4_cutOf_165 ⟨fun c => ?_, fun c v ev => ?_⟩
        · have c' := hx.mp c
          rw [cutN_none hv (by decide) hm c'] at k
          exact k
        · have c : anyF (may B p) f = true := by rw [hx] at c; simpa using c
          have ev : v = iI (cutN B p 2 f) := by rw [ev]; exact z2 c
          rw [cutN_hi (by decide) hm] at k
          refine ⟨fun c2 v2 ev2 => ?_, fun c2 => ?_⟩
          · have ev2 : v2 = iI (cutN B p 2 f) := by rw [ev2]; exact z2 c
            rw [ev, iI_le (by omega) (by omega) (by omega) (by omega)] at c2
            rw [if_neg (by omega)] at k
            rw [ev2]
            exact k
          · rw [ev, iI_le (by omega) (by omega) (by omega) (by omega)] at c2
            rw [if_pos (by omega)] at k
            exact k
      have h133 : (anyF (may B p) f = true → R 20 1 = iI (cutN B p 1 f)) → (anyF (may B p) f = true → R 20 2 = iI (cutN B p 2 f)) → (anyF (may B p) f = true → R 20 3 = iI (cutN B p 3 f)) → qX4_cutOf_133 (pCut B p I R0) (nI p) x2 (nI f) (iI (cg B p 1 f)) (iI (cg B p 2 f)) (iI (cg B p 3 f)) (iI (cutN B p 0 (f + 1))) I R := by
        intro z1 z2 z3
        have k := h165 (va_up R 20 (upd (R 20) 0 (iI (cutN B p 0 (f + 1))))) (h.upR (by decide) _) (fun j hj => by rw [vu_ne hj]; exact hR j hj) (by rw [vu_eq]; rfl) (fun c => by rw [vu_eq]; exact z2 c) (fun c => by rw [vu_eq]; exact z3 c)
        refine kX4_cutOf_133 ⟨fun c => ?_, fun c v ev => ?_⟩
        · have c' := hx.mp c
          rw [cutN_none hv (by decide) hm c'] at k
          exact k
        · have c : anyF (may B p) f = true := by rw [hx] at c; simpa using c
          have ev : v = iI (cutN B p 1 f) := by rw [ev]; exact z1 c
          rw [cutN_lo (by decide) hm] at k
          refine ⟨fun c2 v2 ev2 => ?_, fun c2 => ?_⟩
          · have ev2 : v2 = iI (cutN B p 1 f) := by rw [ev2]; exact z1 c
            rw [ev, iI_le (by omega) (by omega) (by omega) (by omega)] at c2
            rw [if_neg (by omega)] at k
            rw [ev2]
            exact k
          · rw [ev, iI_le (by omega) (by omega) (by omega) (by omega)] at c2
            rw [if_pos (by omega)] at k
            exact k
      have k := h133 (fun c => hc c 1 (by decide)) (fun c => hc c 2 (by decide)) (fun c => hc c 3 (by decide))
      refine ⟨fun c => ?_, fun c => ?_⟩
      · have c' := hx.mp c
        rw [cutN_none hv (by decide) hm c'] at k
        exact k
      · have c : anyF (may B p) f = true := by rw [hx] at c; simpa using c
        have ev : R 20 0 = iI (cutN B p 0 f) := hc c 0 (by decide)
        rw [cutN_lo (by decide) hm] at k
        rw [ev, iI_le (by omega) (by omega) (by omega) (by omega)]
        refine ⟨fun c2 => ?_, fun c2 => ?_⟩
        · rw [if_neg (by omega)] at k
          exact k
        · rw [if_pos (by omega)] at k
          exact k
    · rw [hrc, ite10] at hm
      have e1 : anyF (may B p) (f + 1) = anyF (may B p) f := by rw [anyF, hm, Bool.or_false]
      have ih := lX4_cutOf hv hp (R0 := R0) n (f + 1) (by omega) R h hR (fun ha side hs => by rw [cutN_no hm]; exact hc (e1 ▸ ha) side hs)
      rw [e1, ← nI_1] at ih
      exact ih
theorem sX4_cutOf (h : RM I R B) (hv : InvB B) {p : Nat} (hp : p < 14) : qX4_cutOf (pCut B p I R) (nI p) I R :=
  lX4_cutOf hv hp _ 0 (Nat.zero_add _) R h (fun _ _ => rfl) (fun ha => absurd ha (by simp [anyF]))
end
