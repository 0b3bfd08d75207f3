/-! late -/
section
variable {B : Bk}
theorem pc48 (hv : InvB B) {p : Nat} (hp : p < B.1 11) : ∀ m n, n + m = B.1 18 + 1 → 1 ≤ n → ∀ lt0, lt0 ≤ B.1 11 → (∀ G, 0 < G → G < 2 ^ B.1 18 → cnt G < n → ¬ okF B p G) → ∃ (F lt : Nat), lt0 ≤ lt ∧ lt ≤ B.1 11 ∧ Fnd B p (2 ^ B.1 18) F ∧ (F ≠ 0 → 2 ^ p ||| onB B F (B.1 18) < 2 ^ lt) ∧ ∀ (mc ms cs ss : Nat) (EI : Nat → Int32) (ER : Nat → Nat → Int32) (q En : Nat) (post : Int32 → (Nat → Int32) → (Nat → Nat → Int32) → Nat → Nat → Prop), cs + (lt - lt0) ≤ mc → ss + (2 ^ (lt + 1) - 2 ^ (lt0 + 1)) ≤ ms → PgS B lt0 EI ER En → (∀ (I' : Nat → Int32) (R' : Nat → Nat → Int32) (q' n' : Nat), PgS B lt I' R' n' → (∀ j, j ≠ 5 → I' j = EI j) → (∀ j, j ≠ 4 → R' j = ER j) → post (nI F) I' R' q' n') → qX1_pagesToChange_48 mc ms post (nI p) (nI n) EI ER q En cs ss
  | 0, n, e, hn1, lt0, hl0, hno => by
    have hpm := hv.pm
    refine ⟨0, lt0, Nat.le_refl _, hl0, Or.inl ⟨rfl, fun G h1 h2 => hno G h1 h2 (by have := cnt_lt h2 hpm; omega)⟩, fun h => absurd rfl h, fun mc ms cs ss EI ER q En post _ _ hP hpost => kX1_pagesToChange_48 ⟨fun _ => hpost EI ER q En hP (fun _ _ => rfl) (fun _ _ => rfl), fun c => ?_⟩⟩
    rw [hP.2.1, nI_ltI (by omega) (by omega)] at c
    omega
  | m + 1, n, e, hn1, lt0, hl0, hno => by
    have hpm := hv.pm
    have hn11 := hv.np
    have hc14 : 2 ^ B.1 18 ≤ 2 ^ 14 := p2_14 hpm
    obtain ⟨r1, lt1, a1, a2, a3, a4⟩ := sX1_least hv (many := n) (by omega) 20 n (B.1 18) (2 ^ p) lt0 (by omega) (by omega) (Nat.le_refl _) (Nat.pow_lt_pow_right (by decide) hp) hl0
    rcases a3 with ⟨e1, hno1⟩ | ⟨F, e1, f1, f2, f3, f4, f5⟩
    · obtain ⟨F, lt, b1, b2, b3, b4, b5⟩ := pc48 hv hp m (n + 1) (by omega) (by omega) lt1 a2 (fun G h1 h2 h3 => by
        by_cases g : cnt G = n
        · unfold okF
          rw [g]
          exact hno1 G h2 g
        · exact hno G h1 h2 (by omega))
      have m1 : 2 ^ (lt0 + 1) ≤ 2 ^ (lt1 + 1) := Nat.pow_le_pow_right (by decide) (by omega)
      have m2 : 2 ^ (lt1 + 1) ≤ 2 ^ (lt + 1) := Nat.pow_le_pow_right (by decide) (by omega)
      refine ⟨F, lt, by omega, b2, b3, b4, fun mc ms cs ss EI ER q En post h1 h2 hP hpost => kX1_pagesToChange_48 ⟨fun c => ?_, fun _ => ⟨lt1 - lt0, 2 ^ (lt1 + 1) - 2 ^ (lt0 + 1), ⟨by omega, by omega⟩, ?_⟩⟩⟩
      · rw [hP.2.1, nI_ltI (by omega) (by omega)] at c
        omega
      · rw [hP.2.1, tb_shl _ (by omega)]
        refine ⟨_, a4 EI ER q En hP, fun rc I2 R2 q2 n2 hq => ?_⟩
        obtain ⟨w1, w2, w3, w4⟩ := hq
        refine ⟨fun _ => ?_, fun c => absurd (w1.trans e1) c⟩
        rw [nI_1]
        exact b5 mc ms (cs + (lt1 - lt0)) (ss + (2 ^ (lt1 + 1) - 2 ^ (lt0 + 1))) I2 R2 q2 n2 post (by omega) (by omega) w2 (fun I' R' q' n' z1 z2 z3 => hpost I' R' q' n' z1 (fun j hj => (z2 j hj).trans (w3 j hj)) (fun j hj => (z3 j hj).trans (w4 j hj)))
    · have hF0 : F ≠ 0 := fun e => by rw [e, cnt_0] at f2; omega
      refine ⟨F, lt1, a1, a2, Or.inr ⟨⟨by omega, f1⟩, by unfold okF; rw [f2]; exact f3, fun G h1 h2 h3 => ?_⟩, fun _ => f4, fun mc ms cs ss EI ER q En post h1 h2 hP hpost => kX1_pagesToChange_48 ⟨fun c => ?_, fun _ => ⟨lt1 - lt0, 2 ^ (lt1 + 1) - 2 ^ (lt0 + 1), ⟨by omega, by omega⟩, ?_⟩⟩⟩
      · by_cases g : cnt G < n
        · exact absurd h3 (hno G h1 h2 g)
        · by_cases g2 : cnt G = n
          · unfold okF at h3
            rw [g2] at h3
            exact Or.inr ⟨by omega, f5 G h2 g2 h3⟩
          · exact Or.inl (by omega)
      · rw [hP.2.1, nI_ltI (by omega) (by omega)] at c
        omega
      · rw [hP.2.1, tb_shl _ (by omega)]
        refine ⟨_, a4 EI ER q En hP, fun rc I2 R2 q2 n2 hq => ?_⟩
        obtain ⟨w1, w2, w3, w4⟩ := hq
        refine ⟨fun c => ?_, fun _ => ?_⟩
        · rw [w1, e1] at c
          exact absurd c (m1_ne (by omega))
        · rw [w1, e1]
          exact hpost I2 R2 q2 n2 w2 w3 w4
theorem pc6 (hv : InvB B) {p : Nat} {mc ms cs ss lt : Nat} {EI : Nat → Int32} {ER : Nat → Nat → Int32} {q En : Nat} (hP : PgS B lt EI ER En) {post : Int32 → (Nat → Int32) → (Nat → Nat → Int32) → Nat → Nat → Prop} (h1 : ∃ Pc_2 : Int32 → Prop, qX1_pointsOf Pc_2 (nI (2 ^ p ||| orN (B.2 17) (B.1 18))) EI ER q En ∧ (∀ (rc_2 : Int32), Pc_2 rc_2 → (((rc_2 ≤ ((EI 3) * (12 : Int32))) → (qX1_pagesToChange_48 mc ms post (nI p) (1 : Int32) EI ER q En cs ss)) ∧ ((¬ rc_2 ≤ ((EI 3) * (12 : Int32))) → (post (0 : Int32) EI ER q En))))) :
    ∀ m g, g + m = B.1 18 → qX1_pagesToChange_6 mc ms post (nI p) (nI (2 ^ p ||| orN (B.2 17) g)) (nI g) EI ER q En cs ss
  | 0, g, e => by
    have hpm := hv.pm
    have e : g = B.1 18 := by omega
    subst e
    refine kX1_pagesToChange_6 ⟨fun _ => h1, fun c => ?_⟩
    rw [hP.2.1, nI_leI (by omega) (by omega)] at c
    omega
  | m + 1, g, e => by
    have hpm := hv.pm
    refine kX1_pagesToChange_6 ⟨fun c => ?_, fun _ => ⟨vp_in_nI (by omega) (by decide), fun x2 e2 => ?_⟩⟩
    · rw [hP.2.1, nI_leI (by omega) (by omega)] at c
      omega
    · rw [nI_clamp (by omega), hP.2.2 g (by omega), tb_or, Nat.or_assoc] at e2
      rw [e2, nI_1]
      exact pc6 hv hP h1 m (g + 1) (by omega)
theorem sX1_change (hv : InvB B) (hg : PgI B) {p lt0 : Nat} (hp : p < B.1 11) (hl0 : lt0 ≤ B.1 11) : ∃ (F lt : Nat), lt0 ≤ lt ∧ lt ≤ B.1 11 ∧ Fnd B p (2 ^ B.1 18) F ∧ (F ≠ 0 → 2 ^ p ||| onB B F (B.1 18) < 2 ^ lt) ∧ ∀ (EI : Nat → Int32) (ER : Nat → Nat → Int32) (q En : Nat), PgS B lt0 EI ER En → qX1_pagesToChange (lt - lt0) (2 ^ (lt + 1) - 2 ^ (lt0 + 1)) (fun r I' R' _ n' => r = nI F ∧ PgS B lt I' R' n' ∧ (∀ j, j ≠ 5 → I' j = EI j) ∧ ∀ j, j ≠ 4 → R' j = ER j) (nI p) EI ER q En := by
  have hpm := hv.pm
  have hn11 := hv.np
  have hall : 2 ^ p ||| orN (B.2 17) (B.1 18) < 2 ^ B.1 11 := Nat.or_lt_two_pow (Nat.pow_lt_pow_right (by decide) hp) (orN_lt _ (fun k hk => hv.pg k hk))
  have hall14 : 2 ^ p ||| orN (B.2 17) (B.1 18) < 2 ^ 14 := Nat.lt_of_lt_of_le hall (p2_14 hn11)
  have hpl := pts_le B hv (2 ^ p ||| orN (B.2 17) (B.1 18))
  have start : ∀ (mc ms lt : Nat) (EI : Nat → Int32) (ER : Nat → Nat → Int32) (q En : Nat) (post : Int32 → (Nat → Int32) → (Nat → Nat → Int32) → Nat → Nat → Prop), PgS B lt EI ER En → (pts (B.2 5) (2 ^ p ||| orN (B.2 17) (B.1 18)) 14 ≤ B.1 18 * 12 → qX1_pagesToChange_48 mc ms post (nI p) (nI 1) EI ER q En 0 0) → (¬ pts (B.2 5) (2 ^ p ||| orN (B.2 17) (B.1 18)) 14 ≤ B.1 18 * 12 → post 0 EI ER q En) → qX1_pagesToChange mc ms post (nI p) EI ER q En := fun mc ms lt EI ER q En post hP h1 h2 x2 e2 => by
    rw [tb_shl _ (by omega)] at e2
    have e3 : x2 = nI (2 ^ p ||| orN (B.2 17) 0) := by
      rw [e2]
      show _ = nI (2 ^ p ||| 0)
      rw [Nat.or_zero]
    rw [e3]
    refine pc6 hv hP ⟨_, lX1_pointsOf hP.1.1 hP.1.2.1 hv (by omega) _ 0 (Nat.zero_add _), fun rc hrc => ?_⟩ _ 0 (Nat.zero_add _)
    rw [hrc, pts_n hall hn11, hP.2.1, show (12 : Int32) = nI 12 from rfl, pk_mul, nI_leI (by omega) (by omega)]
    exact ⟨h1, h2⟩
  by_cases g : pts (B.2 5) (2 ^ p ||| orN (B.2 17) (B.1 18)) 14 ≤ B.1 18 * 12
  · obtain ⟨F, lt, b1, b2, b3, b4, b5⟩ := pc48 hv hp (B.1 18) 1 (by omega) (Nat.le_refl _) lt0 hl0 (fun G h1 h2 h3 => by
      have := cnt_pos (S := G) (Nat.lt_of_lt_of_le h2 (p2_14 hpm)) (by omega)
      omega)
    refine ⟨F, lt, b1, b2, b3, b4, fun EI ER q En hP => start _ _ lt0 EI ER q En _ hP (fun _ => b5 _ _ 0 0 EI ER q En _ (by omega) (by omega) hP (fun I' R' q' n' z1 z2 z3 => ⟨rfl, z1, z2, z3⟩)) (fun h => absurd g h)⟩
  · refine ⟨0, lt0, Nat.le_refl _, hl0, Or.inl ⟨rfl, fun G _ h2 => no_ok hv hg hp (by omega) G h2⟩, fun h => absurd rfl h, fun EI ER q En hP => start _ _ lt0 EI ER q En _ hP (fun h => absurd h g) (fun _ => ⟨rfl, hP, fun _ _ => rfl, fun _ _ => rfl⟩)⟩
theorem bi61 (hv : InvB B) {p F lt : Nat} (hF : F < 2 ^ B.1 18) {p2 : Int32} {mc ms cs ss : Nat} {EI : Nat → Int32} {ER : Nat → Nat → Int32} {q En : Nat} (hP : PgS B lt EI ER En) (hM : 2 ^ p ||| onB B F (B.1 18) < 2 ^ lt) {post : Int32 → (Nat → Int32) → (Nat → Nat → Int32) → Nat → Nat → Prop} (h1 : ∀ (I' : Nat → Int32) (R' : Nat → Nat → Int32) (q' n' : Nat), LO B lt (2 ^ p ||| onB B F (B.1 18)) F (B.1 18) EI ER I' R' q' n' → post (nI (cnt F)) I' R' q' n') :
    ∀ m g, g + m = B.1 18 → qX1_bringIn_61 mc ms post (nI p) p2 (nI F) (nI (2 ^ p ||| onB B F g)) (nI g) EI ER q En cs ss
  | 0, g, e => by
    have hpm := hv.pm
    have hF14 : F < 2 ^ 14 := Nat.lt_of_lt_of_le hF (p2_14 hpm)
    have e : g = B.1 18 := by omega
    subst e
    refine kX1_bringIn_61 ⟨fun _ => ⟨_, sX1_layOnto hv hM (by omega) hpm hP.2.1 hP.1, fun I2 R2 q2 n2 hq => ⟨_, sJ6_bitCount hF14, fun rc hrc => ?_⟩⟩, fun c => ?_⟩
    · rw [hrc]
      exact h1 I2 R2 q2 n2 hq
    · rw [hP.2.1, nI_leI (by omega) (by omega)] at c
      omega
  | m + 1, g, e => by
    have hpm := hv.pm
    have hF14 : F < 2 ^ 14 := Nat.lt_of_lt_of_le hF (p2_14 hpm)
    have ih := bi61 hv (p2 := p2) (q := q) (mc := mc) (ms := ms) (cs := cs) (ss := ss) hF hP hM h1 m (g + 1) (by omega)
    have es : onB B F (g + 1) = onB B F g ||| (if F.testBit g then B.2 17 g else 0) := rfl
    rw [es, ← nI_1] at ih
    refine kX1_bringIn_61 ⟨fun c => ?_, fun _ => ⟨fun c => ?_, fun c => ⟨vp_in_nI (by omega) (by decide), fun x4 e4 => ?_⟩⟩⟩
    · rw [hP.2.1, nI_leI (by omega) (by omega)] at c
      omega
    · rw [tb_0 (by omega) (by omega)] at c
      rw [c, if_neg (by decide), Nat.or_zero] at ih
      exact ih
    · rw [tb_0 (by omega) (by omega)] at c
      rw [if_pos (of_not_false c)] at ih
      rw [nI_clamp (by omega), hP.2.2 g (by omega), tb_or, Nat.or_assoc] at e4
      rw [e4]
      exact ih
/-! the reference -/
variable {I : Nat → Int32} {R : Nat → Nat → Int32}
theorem lX4_on (h : RM I R B) (hv : InvB B) {F : Nat} (hF : F < 2 ^ 31) : ∀ n k, k + n = B.1 18 → qX4_on_4 (fun r => r = nI (onB B F (B.1 18))) (nI F) I R (nI (onB B F k)) (nI k)
  | 0, k, e => by
    have hpm := hv.pm
    have e : k = B.1 18 := by omega
    subst e
    refine kX4_on_4 ⟨fun _ => rfl, fun c => ?_⟩
    rw [h.i18, nI_leI (by omega) (by omega)] at c
    omega
  | n + 1, k, e => by
    have hpm := hv.pm
    have ih := lX4_on h hv hF n (k + 1) (by omega)
    have es : onB B F (k + 1) = onB B F k ||| (if F.testBit k then B.2 17 k else 0) := rfl
    rw [es, ← nI_1] at ih
    refine kX4_on_4 ⟨fun c => ?_, fun _ => ⟨fun c => ?_, fun c => ⟨vp_in_nI (by omega) (by decide), fun x2 e2 => ?_⟩⟩⟩
    · rw [h.i18, nI_leI (by omega) (by omega)] at c
      omega
    · rw [tb_1 hF (by omega)] at c
      rw [if_neg c, Nat.or_zero] at ih
      exact ih
    · rw [tb_1 hF (by omega)] at c
      rw [if_pos c] at ih
      rw [nI_clamp (by omega), h.r17, tb_or] at e2
      rw [e2]
      exact ih
theorem sX4_on (h : RM I R B) (hv : InvB B) {F : Nat} (hF : F < 2 ^ 31) : qX4_on (fun r => r = nI (onB B F (B.1 18))) (nI F) I R := lX4_on h hv hF _ 0 (Nat.zero_add _)
theorem Fnd_no {p s F : Nat} (h : Fnd B p s F) (hs : 0 < s) (hn : ¬ okF B p s) : Fnd B p (s + 1) F := by
  have tr : ∀ G, G < s + 1 → okF B p G → G < s := fun G h1 h2 => by
    rcases Nat.lt_or_ge G s with z | z
    · exact z
    · rw [show G = s by omega] at h2
      exact absurd h2 hn
  rcases h with ⟨a1, a2⟩ | ⟨⟨a1, a2⟩, a3, a4⟩
  · exact Or.inl ⟨a1, fun G h1 h2 h3 => a2 G h1 (tr G h2 h3) h3⟩
  · exact Or.inr ⟨⟨a1, by omega⟩, a3, fun G h1 h2 h3 => a4 G h1 (tr G h2 h3) h3⟩
theorem Fnd_take {p s F : Nat} (h : Fnd B p s F) (hs : 0 < s) (ho : okF B p s) (hc : F = 0 ∨ cnt s < cnt F) : Fnd B p (s + 1) s := by
  refine Or.inr ⟨⟨hs, by omega⟩, ho, fun G h1 h2 h3 => ?_⟩
  rcases Nat.lt_or_ge G s with z | z
  · rcases h with ⟨a1, a2⟩ | ⟨⟨a1, a2⟩, a3, a4⟩
    · exact absurd h3 (a2 G h1 z)
    · have := a4 G h1 z h3
      omega
  · have : G = s := by omega
    subst this
    omega
theorem Fnd_keep {p s F : Nat} (h : Fnd B p s F) (hs : 0 < s) (h0 : F ≠ 0) (hc : cnt F ≤ cnt s) : Fnd B p (s + 1) F := by
  rcases h with ⟨a1, a2⟩ | ⟨⟨a1, a2⟩, a3, a4⟩
  · exact absurd a1 h0
  · refine Or.inr ⟨⟨a1, by omega⟩, a3, fun G h1 h2 h3 => ?_⟩
    rcases Nat.lt_or_ge G s with z | z
    · exact a4 G h1 z h3
    · have : G = s := by omega
      subst this
      omega
theorem Fnd_lt {p s F : Nat} (h : Fnd B p s F) (hs : 0 < s) : F < s := by
  rcases h with ⟨a1, a2⟩ | ⟨⟨a1, a2⟩, a3, a4⟩ <;> omega
theorem on_sub (F : Nat) {F2 n : Nat} (h : subN F F2) : subN (onB B F n) (onB B F2 n) := fun i hi => by
  obtain ⟨g, h1, h2, h3⟩ := (onB_tb B F n i).mp hi
  exact (onB_tb B F2 n i).mpr ⟨g, h1, h g h2, h3⟩
theorem or_sub {S T x : Nat} (h : subN S T) : subN (S ||| x) (T ||| x) := fun i hi => by
  rw [Nat.testBit_or, Bool.or_eq_true] at hi ⊢
  exact hi.imp (h i) id
theorem full_sub {s c : Nat} (h : s < 2 ^ c) : subN s (2 ^ c - 1) := fun i hi => by
  rw [Nat.testBit_two_pow_sub_one]
  exact decide_eq_true (tb_ltp h hi)
theorem lX4_late58 (h : RM I R B) (hv : InvB B) {p : Nat} (hp : p < B.1 11) (h25 : ∀ U, subN U (onB B (2 ^ B.1 18 - 1) (B.1 18) ||| 2 ^ p) → R 25 U = nI (fewN (B.2 5) U)) {post : Int32 → (Nat → Int32) → (Nat → Nat → Int32) → Prop} (hend : ∀ F, Fnd B p (2 ^ B.1 18) F → qX4_late_58 post (nI p) (nI F) (nI (2 ^ B.1 18)) I R) : ∀ m s, s + m = 2 ^ B.1 18 → 0 < s → ∀ F, Fnd B p s F → qX4_late_58 post (nI p) (nI F) (nI s) I R
  | 0, s, e, hs, F, hF => by
    have e : s = 2 ^ B.1 18 := by omega
    subst e
    exact hend F hF
  | m + 1, s, e, hs, F, hF => by
    have hpm := hv.pm
    have hn11 := hv.np
    have hc14 : 2 ^ B.1 18 ≤ 2 ^ 14 := p2_14 hpm
    have hFs := Fnd_lt hF hs
    have ec : onB B s (B.1 18) ||| 2 ^ p = 2 ^ p ||| onB B s (B.1 18) := Nat.or_comm _ _
    have hM : onB B s (B.1 18) ||| 2 ^ p < 2 ^ B.1 11 := Nat.or_lt_two_pow (onB_lt hv s (Nat.le_refl _)) (Nat.pow_lt_pow_right (by decide) hp)
    have hM14 : onB B s (B.1 18) ||| 2 ^ p < 2 ^ 14 := Nat.lt_of_lt_of_le hM (p2_14 hn11)
    have hfl := few_le hv.size hM14
    have hcs := cnt_le (S := s)
    have hcF := cnt_le (S := F)
    refine kX4_late_58 ⟨fun c => ?_, fun _ => ⟨_, sX4_on h hv (by omega), fun rc hrc => ?_⟩⟩
    · rw [h.i18, tb_shl _ (by omega), nI_leI (by omega) (by omega)] at c
      omega
    · rw [hrc, tb_shl _ (by omega), tb_or, nI_clamp (by omega), h25 _ (or_sub (on_sub s (full_sub (by omega))))]
      refine ⟨vp_in_nI hM14 (by decide), _, sJ6_bitCount (n := s) (by omega), fun rc9 hrc9 => ?_⟩
      rw [hrc9, nI_leI (by omega) (by omega), nI_1]
      have next : ∀ F, Fnd B p (s + 1) F → qX4_late_58 post (nI p) (nI F) (nI (s + 1)) I R := fun F hF => lX4_late58 h hv hp h25 hend m (s + 1) (by omega) (by omega) F hF
      refine ⟨fun g => ⟨fun g0 => ?_, fun g0 => ⟨_, sJ6_bitCount (n := s) (by omega), fun rc10 h10 => ⟨_, sJ6_bitCount (n := F) (by omega), fun rc11 h11 => ?_⟩⟩⟩, fun g => next F (Fnd_no hF hs (fun ho => g ?_))⟩
      · rw [nI_z (by omega)] at g0
        exact next s (Fnd_take hF hs (by unfold okF; rw [← ec]; exact g) (Or.inl g0))
      · rw [nI_z (by omega)] at g0
        rw [h10, h11, nI_leI (by omega) (by omega)]
        exact ⟨fun g2 => next F (Fnd_keep hF hs g0 g2), fun g2 => next s (Fnd_take hF hs (by unfold okF; rw [← ec]; exact g) (Or.inr (by omega)))⟩
      · unfold okF at ho
        rw [← ec] at ho
        exact ho
theorem rst_end {sz : Nat → Nat} (hsz : ∀ p, sz p ≤ 12) {M : Nat} (hM : M < 2 ^ 14) : ∀ d, rst sz M (fewN sz M + d) = 0
  | 0 => by
    have h := rst_few hsz hM (fewN sz M) (Nat.le_refl _)
    have hs := sub_lt (rst_sub hsz hM (fewN sz M)) hM
    rw [Nat.add_zero]
    by_cases e : rst sz M (fewN sz M) = 0
    · exact e
    · have := few_pos hsz hs e
      omega
  | d + 1 => by
    have ih := rst_end hsz hM d
    show rst sz M (fewN sz M + d) ^^^ nextP sz (rst sz M (fewN sz M + d)) = 0
    rw [ih, nextP_0]
    rfl
theorem layP_end {sz : Nat → Nat} (hsz : ∀ p, sz p ≤ 12) {M i : Nat} (hM : M < 2 ^ 14) (hi : fewN sz M ≤ i) : layP sz M i = 0 := by
  unfold layP
  rw [show i = fewN sz M + (i - fewN sz M) by omega, rst_end hsz hM, nextP_0]
noncomputable def lateF (B : Bk) (F M : Nat) : Nat → Nat := fun i => if F.testBit i then layP (B.2 5) M (fb_ct (fun i => F.testBit i) i) else B.2 17 i
theorem lX4_late188 (hv : InvB B) {p F M : Nat} (hp : p < 31) (hF : F < 2 ^ B.1 18) (hM : M < 2 ^ 14) {R0 : Nat → Nat → Int32} (h0 : RM I R0 B) (h26 : ∀ k, k < fewN (B.2 5) M → R0 26 k = nI (layP (B.2 5) M k)) : ∀ m g, g + m = B.1 18 → ∀ R : Nat → Nat → Int32, (∀ j, j ≠ 17 → R j = R0 j) → (∀ i, i < g → R 17 i = nI (lateF B F M i)) → (∀ i, g ≤ i → R 17 i = nI (B.2 17 i)) → qX4_late_188 (pQ (setI (B.1, va_up B.2 17 (lateF B F M)) 16 (B.1 16 ||| 2 ^ p)) (nI (cnt F))) (nI p) (nI F) (nI (fewN (B.2 5) M)) (nI (fb_ct (fun i => F.testBit i) g)) (nI g) I R
  | 0, g, e, R, hR, h1, h2 => by
    have hpm := hv.pm
    have hF14 : F < 2 ^ 14 := Nat.lt_of_lt_of_le hF (p2_14 hpm)
    have e : g = B.1 18 := by omega
    subst e
    refine kX4_late_188 ⟨fun _ => ⟨_, sJ6_bitCount hF14, fun rc hrc => ⟨hrc, ?_⟩⟩, fun c => ?_⟩
    · rw [h0.i16, tb_shl _ hp, tb_or]
      refine RM.setI (RM.setRow h0 (fun i => ?_) hR) 16 _
      rcases Nat.lt_or_ge i (B.1 18) with z | z
      · exact h1 i z
      · rw [h2 i z]
        unfold lateF
        rw [Nat.testBit_lt_two_pow (Nat.lt_of_lt_of_le hF (Nat.pow_le_pow_right (by decide) z)), if_neg (by decide)]
    · rw [h0.i18, nI_leI (by omega) (by omega)] at c
      omega
  | m + 1, g, e, R, hR, h1, h2 => by
    have hpm := hv.pm
    have hF14 : F < 2 ^ 14 := Nat.lt_of_lt_of_le hF (p2_14 hpm)
    have ect : fb_ct (fun i => F.testBit i) (g + 1) = fb_ct (fun i => F.testBit i) g + (if F.testBit g then 1 else 0) := rfl
    have hct : fb_ct (fun i => F.testBit i) g ≤ g := fb_ct_le _ _
    have hfl := few_le hv.size hM
    refine kX4_late_188 ⟨fun c => ?_, fun _ => ⟨fun c => ?_, fun c => ?_⟩⟩
    · rw [h0.i18, nI_leI (by omega) (by omega)] at c
      omega
    · rw [tb_0 (by omega) (by omega)] at c
      have c := of_not_false c
      have put : ∀ v : Int32, v = nI (layP (B.2 5) M (fb_ct (fun i => F.testBit i) g)) → qX4_late_232 (pQ (setI (B.1, va_up B.2 17 (lateF B F M)) 16 (B.1 16 ||| 2 ^ p)) (nI (cnt F))) (nI p) (nI F) (nI (fewN (B.2 5) M)) (nI (fb_ct (fun i => F.testBit i) g)) (nI g) v (nI g) I R := fun v ev => by
        have ih := lX4_late188 hv hp hF hM h0 h26 m (g + 1) (by omega) (va_up R 17 (upd (R 17) g v)) (fun j hj => by rw [vu_ne hj]; exact hR j hj) (fun i hi => by
          rw [vu_eq]
          by_cases ei : i = g
          · subst ei; rw [pk_us, ev]; unfold lateF; rw [if_pos c]
          · rw [pk_un ei]; exact h1 i (by omega)) (fun i hi => by rw [vu_eq, pk_un (by omega)]; exact h2 i (by omega))
        rw [ect, c, if_pos rfl] at ih
        refine kX4_late_232 ⟨vp_in_nI (by omega) (by decide), ?_⟩
        rw [nI_clamp (by omega), nI_1, nI_1]
        exact ih
      rw [nI_leI (by omega) (by omega)]
      refine ⟨fun g2 => put _ ?_, fun g2 => ⟨vp_in_nI (by omega) (by decide), put _ ?_⟩⟩
      · rw [layP_end hv.size hM g2]; rfl
      · rw [nI_clamp (by omega), hR 26 (by decide), h26 _ (by omega)]
    · rw [tb_0 (by omega) (by omega)] at c
      have ih := lX4_late188 hv hp hF hM h0 h26 m (g + 1) (by omega) R hR (fun i hi => by
        by_cases ei : i = g
        · subst ei
          rw [h2 i (Nat.le_refl _)]
          unfold lateF
          rw [if_neg (by rw [c]; decide)]
        · exact h1 i (by omega)) (fun i hi => h2 i (by omega))
      rw [ect, c, if_neg (by decide), Nat.add_zero] at ih
      rw [nI_1]
      exact ih
end
