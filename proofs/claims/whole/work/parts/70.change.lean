/-! changes of the book -/
def setI (B : Bk) (j v : Nat) : Bk := (va_up B.1 j v, B.2)
def setR (B : Bk) (j i v : Nat) : Bk := (B.1, va_up B.2 j (va_up (B.2 j) i v))
section
variable {I : Nat → Int32} {R : Nat → Nat → Int32} {B : Bk}
theorem RM.setI (h : RM I R B) (j v : Nat) : RM (va_up I j (nI v)) R (setI B j v) := ⟨fun k hk => by
    show va_up I j (nI v) k = nI (va_up B.1 j v k)
    by_cases e : k = j
    · subst e; rw [vu_eq, vu_eq]
    · rw [vu_ne e, vu_ne e]; exact h.1 k hk, h.2⟩
theorem RM.setR (h : RM I R B) (j i v : Nat) : RM I (va_up R j (upd (R j) i (nI v))) (setR B j i v) := ⟨h.1, fun k hk x => by
    show va_up R j (upd (R j) i (nI v)) k x = nI (va_up B.2 j (va_up (B.2 j) i v) k x)
    by_cases e : k = j
    · subst e
      rw [vu_eq, vu_eq]
      by_cases e2 : x = i
      · subst e2; rw [pk_us, vu_eq]
      · rw [pk_un e2, vu_ne e2]; exact h.2 k hk x
    · rw [vu_ne e, vu_ne e]; exact h.2 k hk x⟩
end
theorem vu_if {α : Type} {f : Nat → α} {k j : Nat} {v : α} : va_up f k v j = if j = k then v else f j := rfl
theorem vu_le {f : Nat → Nat} {i v m : Nat} (h : ∀ x, f x ≤ m) (hv : v ≤ m) (x : Nat) : va_up f i v x ≤ m := by
  rw [vu_if]
  split
  · exact hv
  · exact h x
theorem vu_lt {f : Nat → Nat} {i v m : Nat} (h : ∀ x, f x < m) (hv : v < m) (x : Nat) : va_up f i v x < m := by
  rw [vu_if]
  split
  · exact hv
  · exact h x
theorem orF_cong {P Q : Nat → Bool} {g k : Nat → Nat} : ∀ {n : Nat}, (∀ f, f < n → P f = Q f ∧ g f = k f) → orF P g n = orF Q k n
  | 0, _ => rfl
  | n + 1, h => by rw [orF, orF, orF_cong (fun f hf => h f (by omega)), (h n (by omega)).1, (h n (by omega)).2]
theorem mnF_cong {P Q : Nat → Bool} {g k : Nat → Int} : ∀ {n : Nat}, (∀ f, f < n → P f = Q f ∧ g f = k f) → mnF P g n = mnF Q k n
  | 0, _ => rfl
  | n + 1, h => by rw [mnF, mnF, mnF_cong (fun f hf => h f (by omega)), (h n (by omega)).1, (h n (by omega)).2]
theorem mxF_cong {P Q : Nat → Bool} {g k : Nat → Int} : ∀ {n : Nat}, (∀ f, f < n → P f = Q f ∧ g f = k f) → mxF P g n = mxF Q k n
  | 0, _ => rfl
  | n + 1, h => by rw [mxF, mxF, mxF_cong (fun f hf => h f (by omega)), (h n (by omega)).1, (h n (by omega)).2]
/-- a picture looks the same in two books -/
def sameP (B B' : Bk) (p : Nat) : Prop := (B'.2 3 p = B.2 3 p ∧ B'.2 4 p = B.2 4 p ∧ B'.2 5 p = B.2 5 p ∧ B'.2 6 p = B.2 6 p) ∧ ∀ f, f < B.2 6 p → (B'.2 7 (8 * p + f) = B.2 7 (8 * p + f) ∧ B'.2 8 (8 * p + f) = B.2 8 (8 * p + f) ∧ B'.2 9 (8 * p + f) = B.2 9 (8 * p + f) ∧ B'.2 10 (8 * p + f) = B.2 10 (8 * p + f)) ∧ may B' p f = may B p f
section
variable {I : Nat → Int32} {R : Nat → Nat → Int32} {B B' : Bk} {p : Nat}
theorem sameP.cgE (h : sameP B B' p) {f : Nat} (hf : f < B.2 6 p) (s : Nat) : cg B' p s f = cg B p s f := by
  obtain ⟨⟨h7, h8, h9, h10⟩, -⟩ := h.2 f hf
  unfold cg
  split <;> simp only [h8, h9, h10]
theorem sameP.cutE (h : sameP B B' p) (s : Nat) : cutB B' p s = cutB B p s := by
  unfold cutB cutN
  rw [h.1.2.2.2]
  split
  · exact mnF_cong (fun f hf => ⟨(h.2 f hf).2, h.cgE hf s⟩)
  · exact mxF_cong (fun f hf => ⟨(h.2 f hf).2, h.cgE hf s⟩)
theorem sameP.allowE (h : sameP B B' p) : allow B' p = allow B p := by
  unfold allow
  rw [h.1.2.2.2]
  exact bitsF_cong (fun f hf => (h.2 f hf).2)
theorem sameP.anyE (h : sameP B B' p) : anyM B' p = anyM B p := by
  unfold anyM
  rw [h.1.2.2.2]
  exact anyF_cong (fun f hf => (h.2 f hf).2)
theorem sameP.badE (h : sameP B B' p) : bad B' p (B'.2 6 p) = bad B p (B.2 6 p) := by
  unfold bad
  rw [h.1.2.2.2]
  refine anyF_cong (fun f hf => ?_)
  unfold touch
  rw [(h.2 f hf).2, h.cutE, h.cutE, h.cutE, h.cutE, h.cgE hf, h.cgE hf, h.cgE hf, h.cgE hf]
theorem sameP.seenE (h : sameP B B' p) : seenB B' p = seenB B p := by
  rw [seenB_eq, seenB_eq, h.badE]
  have e : shownB B' p = shownB B p := by
    unfold shownB
    rw [h.1.2.2.2]
    exact orF_cong (fun f hf => ⟨(h.2 f hf).2, (h.2 f hf).1.1⟩)
  rw [e]
theorem sameP.picF (h : sameP B B' p) (hp : PicF I R B p) : PicF I R B' p := by
  obtain ⟨⟨e3, e4, e5, e6⟩, h2⟩ := h
  obtain ⟨i0, i1, i2, i3, hf⟩ := hp
  refine ⟨by rw [e3]; exact i0, by rw [e4]; exact i1, by rw [e5]; exact i2, by rw [e6]; exact i3, fun f h9 => ?_⟩
  rw [e6] at h9
  obtain ⟨⟨g7, g8, g9, g10⟩, -⟩ := h2 f h9
  rw [g7, g8, g9, g10]
  exact hf f h9
theorem sameP.pic (h : sameP B B' p) (hp : PicR I R B p) : PicR I R B' p := by
  obtain ⟨h1, h2, h3, h4⟩ := hp
  refine ⟨h.picF h1, by rw [h.allowE]; exact h2, by rw [h.seenE]; exact h3, fun ha side hs => ?_⟩
  rw [h.cutE]
  exact h4 (by rw [← h.anyE]; exact ha) side hs
end
/-! child -/
def childOk (a : Int32) (B : Bk) : Bool := decide (((0 : Nat) : Int) ≤ a.toInt ∧ a.toInt ≤ (9 : Nat)) && decide (B.1 2 < 16)
def childI (a : Int32) (B : Bk) : Int32 := if childOk a B then nI (B.1 2) else -1
def childN (a : Int32) (B : Bk) : Bk := if childOk a B then setI (setR (setR B 0 (B.1 2) a.toNatClampNeg) 1 (B.1 2) 7) 2 (B.1 2 + 1) else B
theorem in_get {a : Int32} {lo hi : Nat} (h : decide ((lo : Int) ≤ a.toInt ∧ a.toInt ≤ (hi : Nat)) = true) : ∃ k, lo ≤ k ∧ k ≤ hi ∧ a = nI k ∧ a.toNatClampNeg = k := by
  rw [decide_eq_true_eq] at h
  have h0 : ¬ a < 0 := by rw [fa_lt]; show ¬ a.toInt < 0; omega
  obtain ⟨k, hk, rfl⟩ := nI_of h0
  rw [nI_toInt hk] at h
  exact ⟨k, by omega, by omega, rfl, nI_clamp hk⟩
theorem ag_child : Ag_child JJ := fun {k c s u v} a hk hj => change hj (fun P => qX3_child P a u.1 u.2.1 u.2.2.1 u.2.2.2.1 u.2.2.2.2.1 u.2.2.2.2.2.1 u.2.2.2.2.2.2.1 u.2.2.2.2.2.2.2.1 u.2.2.2.2.2.2.2.2.1 u.2.2.2.2.2.2.2.2.2.1 u.2.2.2.2.2.2.2.2.2.2) (fun P => qX4_child P a v.1 v.2) (childI a) (childN a) (fun B lt hv hg hc => by
    have hn := hv.nc
    refine ⟨_, sX3_within a 0 9 (by decide) (by decide), fun rc hrc => ⟨fun e => ?_, fun e => ⟨fun c1 => ?_, fun c1 => ?_⟩⟩⟩
    · rw [hrc, b2i_0] at e
      have h0 : childOk a B = false := by unfold childOk; rw [e]; rfl
      unfold childI childN
      rw [h0]
      exact ⟨rfl, hc⟩
    · rw [hrc, b2i_n0] at e
      obtain ⟨x, -, hx, ex, ec⟩ := in_get e
      have c1 : nI (B.1 2) < nI 16 := by rw [← RCc.i2 hc]; exact c1
      rw [nI_ltI (by omega) (by decide)] at c1
      have h0 : childOk a B = true := by unfold childOk; rw [e, decide_eq_true c1]; rfl
      unfold childI childN
      rw [h0, if_pos rfl, if_pos rfl, ec]
      rw [RCc.i2 hc, nI_clamp (by omega), nI_1]
      refine ⟨vp_in_nI (by omega) (by decide), rfl, ?_⟩
      obtain ⟨⟨h1, h2, h3⟩, ⟨h4, h5, h6, h7, h8, h9⟩, ⟨h10, h11⟩, h12, h13⟩ := hc
      refine ⟨⟨rfl, h2, h3⟩, ⟨fun y => ?_, fun y => ?_, h6, h7, h8, h9⟩, ⟨h10, fun p hp => ?_⟩, h12, h13⟩
      · show upd (u.2.1 0) (B.1 2) a y = nI (va_up (B.2 0) (B.1 2) x y)
        by_cases e2 : y = B.1 2
        · subst e2; rw [pk_us, vu_eq]; exact ex
        · rw [pk_un e2, vu_ne e2]; exact h4 y
      · show upd (u.2.1 1) (B.1 2) 7 y = nI (va_up (B.2 1) (B.1 2) 7 y)
        by_cases e2 : y = B.1 2
        · subst e2; rw [pk_us, vu_eq]; rfl
        · rw [pk_un e2, vu_ne e2]; exact h5 y
      · have hs : sameP B (setI (setR (setR B 0 (B.1 2) x) 1 (B.1 2) 7) 2 (B.1 2 + 1)) p := ⟨⟨rfl, rfl, rfl, rfl⟩, fun f hf => ⟨⟨rfl, rfl, rfl, rfl⟩, by
          have := hv.whoc p f hf
          show (va_up (B.2 1) (B.1 2) 7 (B.2 7 (8 * p + f))).testBit (B.2 3 p) = _
          rw [vu_ne (by omega)]
          rfl⟩⟩
        exact hs.pic (h11 p hp)
    · have c1 : ¬ nI (B.1 2) < nI 16 := by rw [← RCc.i2 hc]; exact c1
      rw [nI_ltI (by omega) (by decide)] at c1
      have h0 : childOk a B = false := by unfold childOk; rw [decide_eq_false c1, Bool.and_false]
      unfold childI childN
      rw [h0]
      exact ⟨rfl, hc⟩) (fun B hv hg hm => by
    have hn := hv.nc
    have h9 := hm.upI (j := 19) (by decide) 0
    refine ⟨_, sX4_in a 0 9 (by decide) (by decide), fun rc hrc => ⟨fun e => ?_, fun e => ⟨fun c1 => ?_, fun c1 => ?_⟩⟩⟩
    · rw [hrc, b2i_0] at e
      have h0 : childOk a B = false := by unfold childOk; rw [e]; rfl
      unfold childI childN
      rw [h0]
      exact ⟨rfl, h9⟩
    · rw [hrc, b2i_n0] at e
      obtain ⟨x, -, hx, ex, ec⟩ := in_get e
      have c1 : ¬ nI (B.1 2) = nI 16 := by rw [← hm.i2]; exact c1
      rw [nI_eq (by omega) (by decide)] at c1
      have h0 : childOk a B = true := by unfold childOk; rw [e, decide_eq_true (by omega)]; rfl
      unfold childI childN
      rw [h0, if_pos rfl, if_pos rfl, ec]
      rw [hm.i2, nI_clamp (by omega), nI_1, nI_pred, ex]
      exact ⟨vp_in_nI (by omega) (by decide), rfl, ((h9.setR 0 (B.1 2) x).setR 1 (B.1 2) 7).setI 2 (B.1 2 + 1)⟩
    · have c1 : nI (B.1 2) = nI 16 := by rw [← hm.i2]; exact c1
      rw [nI_eq (by omega) (by decide)] at c1
      have h0 : childOk a B = false := by unfold childOk; rw [decide_eq_false (p := B.1 2 < 16) (by omega), Bool.and_false]
      unfold childI childN
      rw [h0]
      exact ⟨rfl, h9⟩) (fun B hv hg => by
    unfold childN
    by_cases h0 : childOk a B = true
    · rw [if_pos h0]
      unfold childOk at h0
      rw [Bool.and_eq_true] at h0
      obtain ⟨x, -, hx, ex, ec⟩ := in_get h0.1
      have hlt := of_decide_eq_true h0.2
      obtain ⟨⟨a1, a2, a3, a4, a5, a6, a7, a8, a9⟩, ⟨b1, b2, b3, b4, b5, b6, b7, b8, b9, b10⟩, ⟨d1, d2, d3, d4⟩, d5⟩ := hv
      refine ⟨⟨⟨?_, a2, a3, a4, a5, a6, a7, a8, a9⟩, ⟨?_, ?_, b3, b4, b5, b6, b7, b8, b9, b10⟩, ⟨d1, d2, fun p f hf => ?_, d4⟩, d5⟩, hg, rfl⟩
      · show B.1 2 + 1 ≤ 16
        omega
      · exact vu_le b1 (by omega)
      · exact vu_le b2 (by omega)
      · show B.2 7 (8 * p + f) < B.1 2 + 1
        have := d3 p f hf
        omega
    · rw [if_neg h0]
      exact ⟨hv, hg, rfl⟩)
/-! set -/
def setLo (a : Int32) : Nat := if a = 3 then 1 else 0
def setHi (a : Int32) : Nat := if a = 0 then 50 else 14
def setAt (a : Int32) : Nat := if a = 0 then 12 else if a = 1 then 13 else if a = 2 then 14 else 15
def setOk (a b : Int32) : Bool := decide (((0 : Nat) : Int) ≤ a.toInt ∧ a.toInt ≤ (3 : Nat)) && decide (((setLo a : Nat) : Int) ≤ b.toInt ∧ b.toInt ≤ (setHi a : Nat))
def setA (a b : Int32) (B : Bk) : Int32 := if setOk a b then nI (B.1 (setAt a)) else -1
def setN (a b : Int32) (B : Bk) : Bk := if setOk a b then setI B (setAt a) b.toNatClampNeg else B
theorem four_cases {a : Int32} (h : decide (((0 : Nat) : Int) ≤ a.toInt ∧ a.toInt ≤ (3 : Nat)) = true) : a = 0 ∨ a = 1 ∨ a = 2 ∨ a = 3 := by
  obtain ⟨x, -, hx, rfl, -⟩ := in_get h
  have h4 : x < 4 := by omega
  match x, h4 with
  | 0, _ => exact Or.inl rfl
  | 1, _ => exact Or.inr (Or.inl rfl)
  | 2, _ => exact Or.inr (Or.inr (Or.inl rfl))
  | 3, _ => exact Or.inr (Or.inr (Or.inr rfl))
theorem ag_set : Ag_set JJ := fun {k c s u v} a b hk hj => change hj (fun P => qX3_set P a b u.1 u.2.1 u.2.2.1 u.2.2.2.1 u.2.2.2.2.1 u.2.2.2.2.2.1 u.2.2.2.2.2.2.1 u.2.2.2.2.2.2.2.1 u.2.2.2.2.2.2.2.2.1 u.2.2.2.2.2.2.2.2.2.1 u.2.2.2.2.2.2.2.2.2.2) (fun P => qX4_set P a b v.1 v.2) (setA a b) (setN a b) (fun B lt hv hg hc => by
    refine ⟨_, sX3_within a 0 3 (by decide) (by decide), fun rc hrc => ⟨fun e => ?_, fun e => ?_⟩⟩
    · rw [hrc, b2i_0] at e
      have h0 : setOk a b = false := by unfold setOk; rw [e]; rfl
      unfold setA setN
      rw [h0]
      exact ⟨rfl, hc⟩
    · rw [hrc, b2i_n0] at e
      have step : ∀ (lo hi j i : Nat), setLo a = lo → setHi a = hi → setAt a = j → a = nI i → i < 4 → lo < 2 ^ 31 → hi < 2 ^ 31 → sL a = nI lo → sM a = nI hi → u.2.1 5 i = nI (B.1 j) → (∀ x, RC (u.1, va_up u.2.1 5 (upd (u.2.1 5) i (nI x)), u.2.2.1, u.2.2.2.1, u.2.2.2.2.1, u.2.2.2.2.2.1, u.2.2.2.2.2.2.1, u.2.2.2.2.2.2.2.1, u.2.2.2.2.2.2.2.2.1, u.2.2.2.2.2.2.2.2.2.1, u.2.2.2.2.2.2.2.2.2.2) (setI B j x) lt) →
          vp_in a 4 ∧ ∃ Pc_3 : Int32 → Prop, qX3_within Pc_3 b (sL a) (sM a) ∧ ∀ rc_3 : Int32, Pc_3 rc_3 → (¬ rc_3 = 0 → ∀ x3_4 : Int32, x3_4 = u.2.1 5 a.toNatClampNeg → (x3_4 = setA a b B ∧ RC (u.1, va_up u.2.1 5 (upd (u.2.1 5) a.toNatClampNeg b), u.2.2.1, u.2.2.2.1, u.2.2.2.2.1, u.2.2.2.2.2.1, u.2.2.2.2.2.2.1, u.2.2.2.2.2.2.2.1, u.2.2.2.2.2.2.2.2.1, u.2.2.2.2.2.2.2.2.2.1, u.2.2.2.2.2.2.2.2.2.2) (setN a b B) lt)) ∧ (rc_3 = 0 → ((-1 : Int32) = setA a b B ∧ RC u (setN a b B) lt)) := by
        intro lo hi j i e1 e2 e3 ea hi4 l1 l2 s1 s2 hr hx
        rw [s1, s2]
        refine ⟨by rw [ea]; exact vp_in_nI hi4 (by decide), _, sX3_within b lo hi l1 l2, fun rc3 hrc3 => ⟨fun c3 x3 ex3 => ?_, fun c3 => ?_⟩⟩
        · rw [hrc3, b2i_n0] at c3
          have h0 : setOk a b = true := by unfold setOk; rw [e, e1, e2, c3]; rfl
          obtain ⟨y, -, hy, ey, ec⟩ := in_get c3
          unfold setA setN
          rw [h0, if_pos rfl, if_pos rfl, e3, ec]
          have ei : a.toNatClampNeg = i := by rw [ea]; exact nI_clamp (by omega)
          rw [ei] at ex3 ⊢
          rw [ey]
          exact ⟨ex3.trans hr, hx y⟩
        · rw [hrc3, b2i_0] at c3
          have h0 : setOk a b = false := by unfold setOk; rw [e, e1, e2, c3]; rfl
          unfold setA setN
          rw [h0]
          exact ⟨rfl, hc⟩
      obtain ⟨h1, ⟨h4, h5, h6, h7, h8, h9⟩, h10, h12, h13⟩ := id hc
      rcases four_cases e with rfl | rfl | rfl | rfl
      · exact step 0 50 12 0 rfl rfl rfl rfl (by decide) (by decide) (by decide) rfl rfl h6 (fun x => ⟨h1, ⟨h4, h5, rfl, h7, h8, h9⟩, h10, h12, h13⟩)
      · exact step 0 14 13 1 rfl rfl rfl rfl (by decide) (by decide) (by decide) rfl rfl h7 (fun x => ⟨h1, ⟨h4, h5, h6, rfl, h8, h9⟩, h10, h12, h13⟩)
      · exact step 0 14 14 2 rfl rfl rfl rfl (by decide) (by decide) (by decide) rfl rfl h8 (fun x => ⟨h1, ⟨h4, h5, h6, h7, rfl, h9⟩, h10, h12, h13⟩)
      · exact step 1 14 15 3 rfl rfl rfl rfl (by decide) (by decide) (by decide) rfl rfl h9 (fun x => ⟨h1, ⟨h4, h5, h6, h7, h8, rfl⟩, h10, h12, h13⟩)) (fun B hv hg hm => by
    have h9 := hm.upI (j := 19) (by decide) 0
    have step : ∀ (lo hi j : Nat), decide (((0 : Nat) : Int) ≤ a.toInt ∧ a.toInt ≤ (3 : Nat)) = true → setLo a = lo → setHi a = hi → setAt a = j → lo < 2 ^ 31 → hi < 2 ^ 31 → v.1 j = nI (B.1 j) →
        ∃ Pc_1 : Int32 → Prop, qX4_in Pc_1 b (nI lo) (nI hi) ∧ ∀ rc_1 : Int32, Pc_1 rc_1 → (¬ rc_1 = 0 → ∀ x3_2 : Int32, x3_2 = v.1 j → pQ (setN a b B) (setA a b B) x3_2 (va_up (va_up v.1 19 0) j b) v.2) ∧ (rc_1 = 0 → pQ (setN a b B) (setA a b B) (-1) (va_up v.1 19 0) v.2) := by
      intro lo hi j e e1 e2 e3 l1 l2 hr
      refine ⟨_, sX4_in b lo hi l1 l2, fun rc3 hrc3 => ⟨fun c3 x3 ex3 => ?_, fun c3 => ?_⟩⟩
      · rw [hrc3, b2i_n0] at c3
        have h0 : setOk a b = true := by unfold setOk; rw [e, e1, e2, c3]; rfl
        obtain ⟨y, -, hy, ey, ec⟩ := in_get c3
        unfold setA setN
        rw [h0, if_pos rfl, if_pos rfl, e3, ec]
        refine ⟨ex3.trans hr, ?_⟩
        rw [ey]
        exact h9.setI j y
      · rw [hrc3, b2i_0] at c3
        have h0 : setOk a b = false := by unfold setOk; rw [e, e1, e2, c3]; rfl
        unfold setA setN
        rw [h0]
        exact ⟨rfl, h9⟩
    refine ⟨fun o => ?_, fun e => ?_, fun e => ?_, fun e => ?_, fun e => ?_⟩
    · have h0 : setOk a b = false := by unfold setOk; rw [decide_eq_false (by omega)]; rfl
      unfold setA setN
      rw [h0]
      exact ⟨rfl, h9⟩
    · subst e; exact step 0 50 12 (by decide) rfl rfl rfl (by decide) (by decide) hm.i12
    · subst e; exact step 0 14 13 (by decide) rfl rfl rfl (by decide) (by decide) hm.i13
    · subst e; exact step 0 14 14 (by decide) rfl rfl rfl (by decide) (by decide) hm.i14
    · subst e; exact step 1 14 15 (by decide) rfl rfl rfl (by decide) (by decide) hm.i15) (fun B hv hg => by
    unfold setN
    by_cases h0 : setOk a b = true
    · rw [if_pos h0]
      unfold setOk at h0
      rw [Bool.and_eq_true] at h0
      obtain ⟨y, hy1, hy2, ey, ec⟩ := in_get h0.2
      rw [ec]
      obtain ⟨⟨a1, a2, a3, a4, a5, a6, a7, a8, a9⟩, hb, hd, hd5⟩ := hv
      rcases four_cases h0.1 with rfl | rfl | rfl | rfl
      · have hy2 : y ≤ 50 := hy2
        exact ⟨⟨⟨a1, a2, hy2, a4, a5, a6, a7, a8, a9⟩, hb, hd, hd5⟩, hg, rfl⟩
      · have hy2 : y ≤ 14 := hy2
        exact ⟨⟨⟨a1, a2, a3, hy2, a5, a6, a7, a8, a9⟩, hb, hd, hd5⟩, hg, rfl⟩
      · have hy2 : y ≤ 14 := hy2
        exact ⟨⟨⟨a1, a2, a3, a4, hy2, a6, a7, a8, a9⟩, hb, hd, hd5⟩, hg, rfl⟩
      · have hy2 : y ≤ 14 := hy2
        have hy1 : 1 ≤ y := hy1
        exact ⟨⟨⟨a1, a2, a3, a4, a5, hy1, hy2, a8, a9⟩, hb, hd, hd5⟩, hg, rfl⟩
    · rw [if_neg h0]
      exact ⟨hv, hg, rfl⟩)
