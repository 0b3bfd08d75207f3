/-! sets of pictures on pages -/
def subN (T S : Nat) : Prop := ∀ i, T.testBit i = true → S.testBit i = true
theorem and_sub {T S : Nat} (h : subN T S) : T &&& S = T := by
  apply Nat.eq_of_testBit_eq
  intro i
  rw [Nat.testBit_and]
  cases e : T.testBit i
  · rfl
  · rw [h i e]; rfl
theorem sub_and {T S : Nat} (h : T &&& S = T) : subN T S := fun _ hi => sub_tb h hi
theorem sub_lt {T S n : Nat} (h : subN T S) (hS : S < 2 ^ n) : T < 2 ^ n := tb_lt (fun i hi => tb_ltp hS (h i hi))
theorem xtb {T S : Nat} (h : subN T S) (i : Nat) : (S ^^^ T).testBit i = (S.testBit i && !T.testBit i) := by rw [xor_andN h, andN_tb]
theorem sub_x {T S : Nat} (h : subN T S) : subN (S ^^^ T) S := fun i hi => by
  rw [xtb h, Bool.and_eq_true] at hi
  exact hi.1
theorem sub_p2 {S x : Nat} (h : S.testBit x = true) : subN (2 ^ x) S := fun i hi => by
  rw [Nat.testBit_two_pow, decide_eq_true_eq] at hi
  rw [← hi]; exact h
theorem pts_add {sz : Nat → Nat} {T S : Nat} (h : subN T S) (n : Nat) : pts sz T n + pts sz (S ^^^ T) n = pts sz S n := by
  unfold pts
  rw [← fb_sm_add]
  refine fb_sm_cong (fun k _ => ?_)
  rw [xtb h]
  cases e : T.testBit k
  · simp
  · rw [h k e]; simp
theorem pts_p2 (sz : Nat → Nat) (x : Nat) : ∀ n, pts sz (2 ^ x) n = if x < n then sz x else 0
  | 0 => by simp [pts, fb_sm]
  | n + 1 => by
    rw [pts_succ, pts_p2 sz x n, Nat.testBit_two_pow]
    by_cases e : x = n
    · subst e; simp
    · by_cases g : x < n
      · have : x < n + 1 := by omega
        simp [g, this, e]
      · have : ¬ x < n + 1 := by omega
        simp [g, this, e]
theorem pts_p14 (sz : Nat → Nat) {x : Nat} (h : x < 14) : pts sz (2 ^ x) 14 = sz x := by rw [pts_p2, if_pos h]
theorem p2_ne (x : Nat) : 2 ^ x ≠ 0 := Nat.ne_of_gt (Nat.two_pow_pos x)
section
variable {sz : Nat → Nat}
theorem Pag_l : ∀ {b S l}, Pag sz b S l → l ≤ 12
  | 0, _, _, h => by rw [h.2]; exact Nat.le_refl _
  | _ + 1, _, _, h => by obtain ⟨T, -, -, -, h4, -⟩ := h; exact h4
theorem Pag_0 : ∀ {b l}, Pag sz b 0 l → b = 0
  | 0, _, _ => rfl
  | b + 1, _, h => by
    obtain ⟨T, h1, h2, -⟩ := h
    exfalso
    apply h1
    rw [← h2, Nat.and_zero]
theorem Pag_cons {b S T l : Nat} (h0 : T ≠ 0) (hs : subN T S) (hp : pts sz T 14 ≤ 12) (h : Pag sz b (S ^^^ T) l) : Pag sz (b + 1) S (pts sz T 14) := ⟨T, h0, and_sub hs, rfl, hp, l, h⟩
theorem Pag_le : ∀ {b S l}, S < 2 ^ 14 → Pag sz b S l → b ≤ cnt S
  | 0, _, _, _, _ => Nat.zero_le _
  | b + 1, S, _, hS, h => by
    obtain ⟨T, h1, h2, -, -, l', h5⟩ := h
    have hsub := sub_and h2
    have ih := Pag_le (Nat.xor_lt_two_pow hS (sub_lt hsub hS)) h5
    have hc := cnt_split (W := S) (r := T) hsub
    have hp := cnt_pos (sub_lt hsub hS) h1
    rw [xor_andN hsub] at ih
    omega
theorem Pag_ex (hsz : ∀ p, sz p ≤ 12) : ∀ c S, cnt S = c → S < 2 ^ 14 → ∃ b l, Pag sz b S l
  | 0, S, hc, hS => by
    rcases Nat.eq_zero_or_pos S with z | z
    · exact ⟨0, 12, z, rfl⟩
    · have := cnt_pos hS (by omega)
      omega
  | c + 1, S, hc, hS => by
    have h0 : S ≠ 0 := fun e => by rw [e, cnt_0] at hc; omega
    obtain ⟨x, hx, hb⟩ := tb_some hS h0
    have hd := cnt_del hx hb
    obtain ⟨b, l, h⟩ := Pag_ex hsz c (S ^^^ 2 ^ x) (by omega) (Nat.xor_lt_two_pow hS (Nat.pow_lt_pow_right (by decide) hx))
    exact ⟨b + 1, _, Pag_cons (p2_ne x) (sub_p2 hb) (by rw [pts_p14 sz hx]; exact hsz x) h⟩
theorem Pag_pts : ∀ {b S l}, Pag sz b S l → pts sz S 14 ≤ 12 * b
  | 0, S, _, h => by
    rw [h.1]
    have : pts sz 0 14 = 0 := by
      have : ∀ n, pts sz 0 n = 0 := fun n => by
        induction n with
        | zero => rfl
        | succ n ih => rw [pts_succ, ih, Nat.zero_testBit]; rfl
      exact this 14
    omega
  | b + 1, S, _, h => by
    obtain ⟨T, -, h2, h3, h4, l', h5⟩ := h
    have ih := Pag_pts h5
    have := pts_add (sz := sz) (sub_and h2) 14
    omega
/-- the page with one of the pictures can be the last -/
theorem Pag_first {x : Nat} : ∀ {b S l}, S.testBit x = true → Pag sz (b + 1) S l → ∃ T l', T.testBit x = true ∧ subN T S ∧ pts sz T 14 ≤ 12 ∧ Pag sz b (S ^^^ T) l'
  | b, S, l, hx, h => by
    obtain ⟨T, h1, h2, h3, h4, l', h5⟩ := h
    have hsub := sub_and h2
    by_cases hT : T.testBit x = true
    · exact ⟨T, l', hT, hsub, by omega, h5⟩
    · have hx2 : (S ^^^ T).testBit x = true := by rw [xtb hsub, hx, of_not_true hT]; rfl
      match b, h5 with
      | 0, h5 =>
        rw [h5.1, Nat.zero_testBit] at hx2
        cases hx2
      | b + 1, h5 =>
        obtain ⟨T2, l2, g1, g2, g3, g4⟩ := Pag_first hx2 h5
        have hs2 : subN T2 S := fun i hi => sub_x hsub i (g2 i hi)
        have hs3 : subN T (S ^^^ T2) := fun i hi => by
          rw [xtb hs2, hsub i hi]
          have : T2.testBit i = false := by
            cases e : T2.testBit i
            · rfl
            · have := g2 i e
              rw [xtb hsub, hi] at this
              simp at this
          rw [this]; rfl
        have e : (S ^^^ T2) ^^^ T = (S ^^^ T) ^^^ T2 := by rw [Nat.xor_assoc, Nat.xor_comm T2 T, ← Nat.xor_assoc]
        exact ⟨T2, _, g1, hs2, g3, Pag_cons h1 hs3 (by omega) (e ▸ g4)⟩
/-! the fewest -/
def Few (sz : Nat → Nat) (S b : Nat) : Prop := (∃ l, Pag sz b S l) ∧ ∀ b' l', Pag sz b' S l' → b ≤ b'
noncomputable def fewN (sz : Nat → Nat) (S : Nat) : Nat := Classical.epsilon (Few sz S)
theorem Few_uniq {S a b : Nat} (h1 : Few sz S a) (h2 : Few sz S b) : a = b := by
  obtain ⟨⟨l, p1⟩, m1⟩ := h1
  obtain ⟨⟨l2, p2⟩, m2⟩ := h2
  have := m1 _ _ p2
  have := m2 _ _ p1
  omega
theorem Few_ex (hsz : ∀ p, sz p ≤ 12) {S : Nat} (hS : S < 2 ^ 14) : ∃ b, Few sz S b := by
  obtain ⟨b, l, h⟩ := Pag_ex hsz _ S rfl hS
  obtain ⟨k, h1, h2⟩ := pk_least (fun b => ∃ l, Pag sz b S l) ⟨b, l, h⟩
  refine ⟨k, h1, fun b' l' h9 => ?_⟩
  rcases Nat.lt_or_ge b' k with g | g
  · exact absurd ⟨l', h9⟩ (h2 b' g)
  · exact g
theorem few_spec (hsz : ∀ p, sz p ≤ 12) {S : Nat} (hS : S < 2 ^ 14) : Few sz S (fewN sz S) := Classical.epsilon_spec (Few_ex hsz hS)
theorem few_is {S b : Nat} (h : Few sz S b) : fewN sz S = b := Few_uniq (Classical.epsilon_spec ⟨b, h⟩) h
theorem few_0 : fewN sz 0 = 0 := few_is ⟨⟨12, rfl, rfl⟩, fun _ _ _ => Nat.zero_le _⟩
theorem few_pos (hsz : ∀ p, sz p ≤ 12) {S : Nat} (hS : S < 2 ^ 14) (h0 : S ≠ 0) : 0 < fewN sz S := by
  obtain ⟨⟨l, h⟩, -⟩ := few_spec hsz hS
  rcases Nat.eq_zero_or_pos (fewN sz S) with z | z
  · rw [z] at h
    exact absurd h.1 h0
  · exact z
theorem few_le (hsz : ∀ p, sz p ≤ 12) {S : Nat} (hS : S < 2 ^ 14) : fewN sz S ≤ 14 := by
  obtain ⟨⟨l, h⟩, -⟩ := few_spec hsz hS
  exact Nat.le_trans (Pag_le hS h) cnt_le
theorem few_ge (hsz : ∀ p, sz p ≤ 12) {S T : Nat} (hS : S < 2 ^ 14) (h0 : T ≠ 0) (hs : subN T S) (hp : pts sz T 14 ≤ 12) : fewN sz S ≤ 1 + fewN sz (S ^^^ T) := by
  obtain ⟨⟨l, h⟩, -⟩ := few_spec hsz (Nat.xor_lt_two_pow hS (sub_lt hs hS))
  have := (few_spec hsz hS).2 _ _ (Pag_cons h0 hs hp h)
  omega
theorem few_page (hsz : ∀ p, sz p ≤ 12) {S x : Nat} (hS : S < 2 ^ 14) (hx : S.testBit x = true) : ∃ T, T.testBit x = true ∧ subN T S ∧ pts sz T 14 ≤ 12 ∧ fewN sz S = 1 + fewN sz (S ^^^ T) := by
  obtain ⟨⟨l, h⟩, -⟩ := few_spec hsz hS
  have h0 : S ≠ 0 := fun e => by rw [e, Nat.zero_testBit] at hx; cases hx
  have hp := few_pos hsz hS h0
  obtain ⟨b, eb⟩ : ∃ b, fewN sz S = b + 1 := ⟨fewN sz S - 1, by omega⟩
  rw [eb] at h
  obtain ⟨T, l', h1, h2, h3, h4⟩ := Pag_first hx h
  have hT : T ≠ 0 := fun e => by rw [e, Nat.zero_testBit] at h1; cases h1
  have g1 := few_ge hsz hS hT h2 h3
  have g2 := (few_spec hsz (Nat.xor_lt_two_pow hS (sub_lt h2 hS))).2 _ _ h4
  exact ⟨T, h1, h2, h3, by omega⟩
/-! the class's numbers -/
theorem PkL_uniq {S v w : Nat} (h1 : PkL sz S v) (h2 : PkL sz S w) : v = w := by
  obtain ⟨b, l, e1, a1, a2, a3, a4⟩ := h1
  obtain ⟨b2, l2, e2, b1, b3, b4, b5⟩ := h2
  have := a4 _ _ b4
  have := b5 _ _ a3
  omega
theorem PkL_few {S v : Nat} (h : PkL sz S v) : fewN sz S = v / 16 ∧ v < 256 := by
  obtain ⟨b, l, e1, a1, a2, a3, a4⟩ := h
  have hf : Few sz S b := ⟨⟨l, a3⟩, fun b' l' h9 => by
    have := a4 _ _ h9
    omega⟩
  rw [few_is hf]
  omega
theorem PkL_0 : PkL sz 0 12 := ⟨0, 12, rfl, Nat.le_refl _, Nat.zero_le _, ⟨rfl, rfl⟩, fun b' l' h => by
  have := Pag_0 h
  subst this
  exact Or.inr ⟨rfl, by rw [h.2]; exact Nat.le_refl _⟩⟩
def wom (v s : Nat) : Nat := if v % 16 + s ≤ 12 then v + s else v / 16 * 16 + 16 + s
theorem PkL_min (hsz : ∀ p, sz p ≤ 12) {S w : Nat} (hS : S < 2 ^ 14) (h0 : S ≠ 0) (hpos : ∀ x, S.testBit x = true → 1 ≤ sz x) (h1 : ∃ x v, S.testBit x = true ∧ PkL sz (S ^^^ 2 ^ x) v ∧ w = wom v (sz x)) (h2 : ∀ x v, S.testBit x = true → PkL sz (S ^^^ 2 ^ x) v → w ≤ wom v (sz x)) (hex : ∀ x, S.testBit x = true → ∃ v, PkL sz (S ^^^ 2 ^ x) v) : PkL sz S w := by
  have ach : ∃ b l, w = 16 * b + l ∧ l ≤ 12 ∧ Pag sz b S l := by
    obtain ⟨x, v, hx, ⟨b, l, ev, hl, -, hp, -⟩, ew⟩ := h1
    have hx14 := tb_ltp hS hx
    have hs := hpos x hx
    have hs2 := hsz x
    unfold wom at ew
    by_cases g : l + sz x ≤ 12
    · rw [if_pos (by omega)] at ew
      match b, hp with
      | 0, hp =>
        have := hp.2
        omega
      | b + 1, hp =>
        obtain ⟨T, g1, g2, g3, g4, l', g5⟩ := hp
        have gs := sub_and g2
        have hTx : T.testBit x = false := by
          cases e : T.testBit x
          · rfl
          · have := gs x e
            rw [xtb (sub_p2 hx), Nat.testBit_two_pow_self] at this
            simp at this
        have hT'x : (T ||| 2 ^ x).testBit x = true := by rw [Nat.testBit_or, Nat.testBit_two_pow_self, Bool.or_true]
        have e1 : (T ||| 2 ^ x) ^^^ 2 ^ x = T := by
          apply Nat.eq_of_testBit_eq
          intro i
          rw [xtb (sub_p2 hT'x), Nat.testBit_or, Nat.testBit_two_pow]
          by_cases e : x = i
          · subst e; rw [hTx]; simp
          · simp [e]
        have s1 : subN (T ||| 2 ^ x) S := fun i hi => by
          rw [Nat.testBit_or, Bool.or_eq_true] at hi
          rcases hi with hi | hi
          · exact sub_x (sub_p2 hx) i (gs i hi)
          · exact sub_p2 hx i hi
        have e2 := pts_add (sz := sz) (sub_p2 hT'x) 14
        rw [e1, pts_p14 sz hx14] at e2
        have e3 : S ^^^ (T ||| 2 ^ x) = (S ^^^ 2 ^ x) ^^^ T := by
          have e4 : T ||| 2 ^ x = T ^^^ 2 ^ x := by
            have := congrArg (fun z => z ^^^ 2 ^ x) e1
            simp only [Nat.xor_assoc, Nat.xor_self, Nat.xor_zero] at this
            exact this
          rw [e4, Nat.xor_comm T, Nat.xor_assoc]
        refine ⟨b + 1, l + sz x, by omega, g, ?_⟩
        have e5 : l + sz x = pts sz (T ||| 2 ^ x) 14 := by omega
        rw [e5]
        exact Pag_cons (fun e => by rw [e, Nat.zero_testBit] at hT'x; cases hT'x) s1 (by omega) (e3 ▸ g5)
    · rw [if_neg (by omega)] at ew
      refine ⟨b + 1, sz x, by omega, hs2, ?_⟩
      have := Pag_cons (sz := sz) (p2_ne x) (sub_p2 hx) (by rw [pts_p14 sz hx14]; exact hs2) hp
      rw [pts_p14 sz hx14] at this
      exact this
  obtain ⟨b, l, ew, hl, hp⟩ := ach
  refine ⟨b, l, ew, hl, Nat.le_trans (Pag_le hS hp) cnt_le, hp, fun b' l' h9 => ?_⟩
  have hl' := Pag_l h9
  have key : w ≤ 16 * b' + l' := by
    match b', h9 with
    | 0, h9 => exact absurd h9.1 h0
    | c + 1, h9 =>
      obtain ⟨T, g1, g2, g3, g4, l2, g5⟩ := h9
      have gs := sub_and g2
      obtain ⟨x, hx14, hTx⟩ := tb_some (sub_lt gs hS) g1
      have hx := gs x hTx
      obtain ⟨v, hv⟩ := hex x hx
      have hw := h2 x v hx hv
      obtain ⟨b0, l0, ev, hl0, -, hp0, hm0⟩ := hv
      have hs := hpos x hx
      have hs2 := hsz x
      have hl2 := Pag_l g5
      by_cases eT : T = 2 ^ x
      · subst eT
        rw [pts_p14 sz hx14] at g3
        have := hm0 _ _ g5
        unfold wom at hw
        split at hw <;> omega
      · have hsx : subN (2 ^ x) T := sub_p2 hTx
        have e1 := pts_add (sz := sz) hsx 14
        rw [pts_p14 sz hx14] at e1
        have hT2 : T ^^^ 2 ^ x ≠ 0 := fun e => eT (by
          have := congrArg (fun z => z ^^^ 2 ^ x) e
          simp only [Nat.xor_assoc, Nat.xor_self, Nat.xor_zero, Nat.zero_xor] at this
          exact this)
        have s2 : subN (T ^^^ 2 ^ x) (S ^^^ 2 ^ x) := fun i hi => by
          rw [xtb hsx, Bool.and_eq_true] at hi
          rw [xtb (sub_p2 hx), gs i hi.1, hi.2]; rfl
        have e3 : (S ^^^ 2 ^ x) ^^^ (T ^^^ 2 ^ x) = S ^^^ T := by
          rw [Nat.xor_comm T, ← Nat.xor_assoc, Nat.xor_assoc S, Nat.xor_self, Nat.xor_zero]
        have := hm0 _ _ (Pag_cons hT2 s2 (by omega) (e3.symm ▸ g5))
        unfold wom at hw
        split at hw <;> omega
  omega
end
