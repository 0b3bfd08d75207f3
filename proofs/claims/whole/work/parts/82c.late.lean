/-! late: which pages are changed; the class -/
def onB (B : Bk) (F n : Nat) : Nat := orN (fun g => if F.testBit g then B.2 17 g else 0) n
def okF (B : Bk) (p F : Nat) : Prop := fewN (B.2 5) (2 ^ p ||| onB B F (B.1 18)) ≤ cnt F
/-- the pages found among those below s -/
def Fnd (B : Bk) (p s F : Nat) : Prop := (F = 0 ∧ ∀ G, 0 < G → G < s → ¬ okF B p G) ∨ ((0 < F ∧ F < s) ∧ okF B p F ∧ ∀ G, 0 < G → G < s → okF B p G → (cnt F < cnt G ∨ (cnt F = cnt G ∧ F ≤ G)))
theorem Fnd_uniq {B : Bk} {p s F G : Nat} (h1 : Fnd B p s F) (h2 : Fnd B p s G) : F = G := by
  rcases h1 with ⟨a1, a2⟩ | ⟨⟨a1, a2⟩, a3, a4⟩
  · rcases h2 with ⟨b1, b2⟩ | ⟨⟨b1, b2⟩, b3, b4⟩
    · omega
    · exact absurd b3 (a2 G b1 b2)
  · rcases h2 with ⟨b1, b2⟩ | ⟨⟨b1, b2⟩, b3, b4⟩
    · exact absurd a3 (b2 F a1 a2)
    · have := a4 G b1 b2 b3
      have := b4 F a1 a2 a3
      omega
theorem onB_tb (B : Bk) (F n i : Nat) : (onB B F n).testBit i = true ↔ ∃ g, g < n ∧ F.testBit g = true ∧ (B.2 17 g).testBit i = true := by
  unfold onB
  rw [orN_tb]
  constructor
  · rintro ⟨g, h1, h2⟩
    cases hf : F.testBit g
    · rw [hf] at h2
      simp at h2
    · rw [hf, if_pos rfl] at h2
      exact ⟨g, h1, hf, h2⟩
  · rintro ⟨g, h1, h2, h3⟩
    exact ⟨g, h1, by rw [h2, if_pos rfl]; exact h3⟩
theorem onB_lt {B : Bk} (hv : InvB B) (F : Nat) {n : Nat} (hn : n ≤ B.1 18) : onB B F n < 2 ^ B.1 11 := tb_lt (fun i hi => by
  obtain ⟨g, h1, h2, h3⟩ := (onB_tb B F n i).mp hi
  exact tb_ltp (hv.pg g (by omega)) h3)
theorem onB_top {B : Bk} {G t n : Nat} (ht : t < n) (hG : G.testBit t = true) : onB B G n = B.2 17 t ||| onB B (G ^^^ 2 ^ t) n := by
  apply Nat.eq_of_testBit_eq
  intro i
  rw [Bool.eq_iff_iff, Nat.testBit_or, Bool.or_eq_true, onB_tb, onB_tb]
  constructor
  · rintro ⟨g, h1, h2, h3⟩
    by_cases e : g = t
    · subst e; exact Or.inl h3
    · refine Or.inr ⟨g, h1, ?_, h3⟩
      rw [xtb (sub_p2 hG), h2, Nat.testBit_two_pow, decide_eq_false (fun e2 => e e2.symm)]
      rfl
  · rintro (h | ⟨g, h1, h2, h3⟩)
    · exact ⟨t, ht, hG, h⟩
    · exact ⟨g, h1, sub_x (sub_p2 hG) g h2, h3⟩
theorem onB_0 (B : Bk) (n : Nat) : onB B 0 n = 0 := by
  apply Nat.eq_of_testBit_eq
  intro i
  rw [Nat.zero_testBit]
  cases h : (onB B 0 n).testBit i
  · rfl
  · obtain ⟨g, -, h2, -⟩ := (onB_tb B 0 n i).mp h
    rw [Nat.zero_testBit] at h2
    cases h2
theorem pts_or {sz : Nat → Nat} (S T : Nat) : pts sz (S ||| T) 14 ≤ pts sz S 14 + pts sz T 14 := by
  unfold pts
  rw [← fb_sm_add]
  refine fb_sm_le (fun k _ => ?_)
  rw [Nat.testBit_or]
  cases S.testBit k <;> cases T.testBit k <;> simp
theorem pts_all {B : Bk} (hg : PgI B) (p G : Nat) : ∀ n, n ≤ B.1 18 → pts (B.2 5) ((2 ^ p ||| orN (B.2 17) n) ||| (2 ^ p ||| onB B G (B.1 18))) 14 + 12 * fb_ct (fun i => G.testBit i) n ≤ pts (B.2 5) (2 ^ p ||| onB B G (B.1 18)) 14 + 12 * n
  | 0, _ => by
    have e : (2 ^ p ||| orN (B.2 17) 0) ||| (2 ^ p ||| onB B G (B.1 18)) = 2 ^ p ||| onB B G (B.1 18) := by
      show (2 ^ p ||| 0) ||| _ = _
      rw [Nat.or_zero, ← Nat.or_assoc, Nat.or_self]
    rw [e]
    exact Nat.le_refl _
  | n + 1, h => by
    have ih := pts_all hg p G n (by omega)
    have hn := hg n (by omega)
    rw [fb_ct_succ]
    have e0 : (2 ^ p ||| orN (B.2 17) (n + 1)) ||| (2 ^ p ||| onB B G (B.1 18)) = ((2 ^ p ||| orN (B.2 17) n) ||| (2 ^ p ||| onB B G (B.1 18))) ||| B.2 17 n := by
      rw [orN]
      apply Nat.eq_of_testBit_eq
      intro i
      simp only [Nat.testBit_or]
      cases (2 ^ p).testBit i <;> cases (orN (B.2 17) n).testBit i <;> cases (onB B G (B.1 18)).testBit i <;> cases (B.2 17 n).testBit i <;> rfl
    cases hb : G.testBit n
    · rw [e0]
      have := pts_or (sz := B.2 5) ((2 ^ p ||| orN (B.2 17) n) ||| (2 ^ p ||| onB B G (B.1 18))) (B.2 17 n)
      simp
      omega
    · have e1 : ((2 ^ p ||| orN (B.2 17) n) ||| (2 ^ p ||| onB B G (B.1 18))) ||| B.2 17 n = (2 ^ p ||| orN (B.2 17) n) ||| (2 ^ p ||| onB B G (B.1 18)) := by
        apply Nat.eq_of_testBit_eq
        intro i
        rw [Nat.testBit_or]
        cases hi : (B.2 17 n).testBit i
        · rw [Bool.or_false]
        · have := (onB_tb B G (B.1 18) i).mpr ⟨n, by omega, hb, hi⟩
          simp [Nat.testBit_or, this]
      rw [e0, e1]
      simp
      omega
theorem no_ok {B : Bk} (hv : InvB B) (hg : PgI B) {p : Nat} (hp : p < B.1 11) (h : B.1 18 * 12 < pts (B.2 5) (2 ^ p ||| orN (B.2 17) (B.1 18)) 14) : ∀ G, G < 2 ^ B.1 18 → ¬ okF B p G := fun G hG hok => by
  have hpm := hv.pm
  have h1 := pts_all hg p G (B.1 18) (Nat.le_refl _)
  rw [cnt_n hG hpm] at h1
  have h2 := pts_sub (sz := B.2 5) (T := 2 ^ p ||| orN (B.2 17) (B.1 18)) (S := (2 ^ p ||| orN (B.2 17) (B.1 18)) ||| (2 ^ p ||| onB B G (B.1 18))) (fun i hi => by rw [Nat.testBit_or, hi]; rfl) 14
  have hD : 2 ^ p ||| onB B G (B.1 18) < 2 ^ 14 := Nat.lt_of_lt_of_le (Nat.or_lt_two_pow (Nat.pow_lt_pow_right (by decide) hp) (onB_lt hv G (Nat.le_refl _))) (p2_14 hv.np)
  obtain ⟨⟨l, h3⟩, -⟩ := few_spec hv.size hD
  have h4 := Pag_pts h3
  unfold okF at hok
  omega
/-- what a search for the least pages below a limit answers -/
def LpR (B : Bk) (n lim oth many lt : Nat) (r : Int32) : Prop := (r = -1 ∧ ∀ G, G < 2 ^ lim → cnt G = n → ¬ fewN (B.2 5) (oth ||| onB B G (B.1 18)) ≤ many) ∨ ∃ F, r = nI F ∧ F < 2 ^ lim ∧ cnt F = n ∧ fewN (B.2 5) (oth ||| onB B F (B.1 18)) ≤ many ∧ oth ||| onB B F (B.1 18) < 2 ^ lt ∧ ∀ G, G < 2 ^ lim → cnt G = n → fewN (B.2 5) (oth ||| onB B G (B.1 18)) ≤ many → F ≤ G
def PgS (B : Bk) (lt : Nat) (EI : Nat → Int32) (ER : Nat → Nat → Int32) (En : Nat) : Prop := PkS B lt EI ER En ∧ EI 3 = nI (B.1 18) ∧ ∀ g, g < B.1 18 → ER 2 g = nI (B.2 17 g)
theorem cnt_lt {G n : Nat} (h : G < 2 ^ n) (hn : n ≤ 14) : cnt G ≤ n := by
  rw [← cnt_n h hn]
  exact fb_ct_le _ _
section
variable {B : Bk}
theorem lp_loop (hv : InvB B) {n lim oth many : Nat} (hlim : lim ≤ B.1 18) (hoth : oth < 2 ^ B.1 11) {d : Nat}
    (hY : ∀ t lt0, t ≤ B.1 18 → lt0 ≤ B.1 11 → t < lim → ∃ (r : Int32) (lt : Nat), lt0 ≤ lt ∧ lt ≤ B.1 11 ∧ LpR B n t (oth ||| B.2 17 t) many lt r ∧ ∀ (EI : Nat → Int32) (ER : Nat → Nat → Int32) (q En : Nat), PgS B lt0 EI ER En → qX1_leastPages d (lt - lt0) (2 ^ (lt + 1) - 2 ^ (lt0 + 1)) (fun r' I' R' _ n' => r' = r ∧ PgS B lt I' R' n' ∧ (∀ j, j ≠ 5 → I' j = EI j) ∧ ∀ j, j ≠ 4 → R' j = ER j) (nI n) (nI t) (nI (oth ||| B.2 17 t)) (nI many) EI ER q En) :
    ∀ m t, t + m = lim → ∀ lt0, lt0 ≤ B.1 11 → (∀ G, G < 2 ^ t → cnt G = n + 1 → ¬ fewN (B.2 5) (oth ||| onB B G (B.1 18)) ≤ many) → ∃ (r : Int32) (lt : Nat), lt0 ≤ lt ∧ lt ≤ B.1 11 ∧ LpR B (n + 1) lim oth many lt r ∧ ∀ (mc ms cs ss : Nat) (EI : Nat → Int32) (ER : Nat → Nat → Int32) (q En : Nat) (post : Int32 → (Nat → Int32) → (Nat → Nat → Int32) → Nat → Nat → Prop), cs + (lt - lt0) ≤ mc → ss + (2 ^ (lt + 1) - 2 ^ (lt0 + 1)) ≤ ms → PgS B lt0 EI ER En → (∀ (I' : Nat → Int32) (R' : Nat → Nat → Int32) (q' n' : Nat), PgS B lt I' R' n' → (∀ j, j ≠ 5 → I' j = EI j) → (∀ j, j ≠ 4 → R' j = ER j) → post r I' R' q' n') → qX1_leastPages_25 (qX1_leastPages d) mc ms post (nI (n + 1)) (nI lim) (nI oth) (nI many) (nI t) EI ER q En cs ss
  | 0, t, e, lt0, hl0, hno => by
    have hpm := hv.pm
    have e : t = lim := by omega
    subst e
    refine ⟨-1, lt0, Nat.le_refl _, hl0, Or.inl ⟨rfl, hno⟩, fun mc ms cs ss EI ER q En post _ _ hP hpost => kX1_leastPages_25 ⟨fun _ => hpost EI ER q En hP (fun _ _ => rfl) (fun _ _ => rfl), fun c => ?_⟩⟩
    rw [nI_leI (by omega) (by omega)] at c
    omega
  | m + 1, t, e, lt0, hl0, hno => by
    have hpm := hv.pm
    have hn11 := hv.np
    have ht0 := Nat.two_pow_pos t
    have hts : 2 ^ (t + 1) = 2 ^ t * 2 := Nat.pow_succ 2 t
    have htl : 2 ^ (t + 1) ≤ 2 ^ lim := Nat.pow_le_pow_right (by decide) (by omega)
    have htl14 : 2 ^ lim ≤ 2 ^ 14 := p2_14 (by omega)
    obtain ⟨r1, lt1, a1, a2, a3, a4⟩ := hY t lt0 (by omega) hl0 (by omega)
    have assoc : ∀ G, (oth ||| B.2 17 t) ||| onB B G (B.1 18) = oth ||| (B.2 17 t ||| onB B G (B.1 18)) := fun G => Nat.or_assoc _ _ _
    have top : ∀ G, G < 2 ^ (t + 1) → ¬ G < 2 ^ t → cnt G = n + 1 → G ^^^ 2 ^ t < 2 ^ t ∧ cnt (G ^^^ 2 ^ t) = n ∧ oth ||| onB B G (B.1 18) = (oth ||| B.2 17 t) ||| onB B (G ^^^ 2 ^ t) (B.1 18) ∧ G = 2 ^ t + (G ^^^ 2 ^ t) := fun G hG1 hG2 hG3 => by
      have hb := top_bit (by omega) hG1
      have h1 := xor_sub hb
      have h2 := cnt_del (by omega) hb
      refine ⟨by omega, by omega, ?_, by omega⟩
      rw [onB_top (by omega) hb, assoc]
    rcases a3 with ⟨e1, hno1⟩ | ⟨F, e1, f1, f2, f3, f4, f5⟩
    · obtain ⟨r, lt, b1, b2, b3, b4⟩ := lp_loop hv hlim hoth hY m (t + 1) (by omega) lt1 a2 (fun G hG1 hG2 => by
        by_cases g : G < 2 ^ t
        · exact hno G g hG2
        · obtain ⟨c1, c2, c3, -⟩ := top G hG1 g hG2
          rw [c3]
          exact hno1 _ c1 c2)
      have m1 : 2 ^ (lt0 + 1) ≤ 2 ^ (lt1 + 1) := Nat.pow_le_pow_right (by decide) (by omega)
      have m2 : 2 ^ (lt1 + 1) ≤ 2 ^ (lt + 1) := Nat.pow_le_pow_right (by decide) (by omega)
      refine ⟨r, lt, by omega, b2, b3, fun mc ms cs ss EI ER q En post h1 h2 hP hpost => kX1_leastPages_25 ⟨fun c => ?_, fun _ => ⟨fun c => ?_, fun _ => ⟨vp_in_nI (by omega) (by decide), lt1 - lt0, 2 ^ (lt1 + 1) - 2 ^ (lt0 + 1), ⟨by omega, by omega⟩, ?_⟩⟩⟩⟩
      · rw [nI_leI (by omega) (by omega)] at c
        omega
      · rw [hP.2.1, nI_leI (by omega) (by omega)] at c
        omega
      · rw [nI_clamp (by omega), hP.2.2 t (by omega), fa_or, nI_pred]
        refine ⟨_, a4 EI ER q En hP, fun rc I2 R2 q2 n2 hq => ?_⟩
        obtain ⟨w1, w2, w3, w4⟩ := hq
        refine ⟨fun _ => ?_, fun c => absurd (w1.trans e1) c⟩
        rw [nI_1]
        exact b4 mc ms (cs + (lt1 - lt0)) (ss + (2 ^ (lt1 + 1) - 2 ^ (lt0 + 1))) I2 R2 q2 n2 post (by omega) (by omega) w2 (fun I' R' q' n' z1 z2 z3 => hpost I' R' q' n' z1 (fun j hj => (z2 j hj).trans (w3 j hj)) (fun j hj => (z3 j hj).trans (w4 j hj)))
    · have hFt : F.testBit t = false := Nat.testBit_lt_two_pow f1
      obtain ⟨d1, d2⟩ := add_bit hFt
      have d3 := xor_sub d2
      have d4 : F ||| 2 ^ t < 2 ^ (t + 1) := Nat.or_lt_two_pow (by omega) (by omega)
      have d5 := cnt_del (S := F ||| 2 ^ t) (f := t) (by omega) d2
      rw [d1] at d3 d5
      have d6 : oth ||| onB B (F ||| 2 ^ t) (B.1 18) = (oth ||| B.2 17 t) ||| onB B F (B.1 18) := by rw [onB_top (by omega) d2, d1, assoc]
      refine ⟨nI (F ||| 2 ^ t), lt1, a1, a2, Or.inr ⟨F ||| 2 ^ t, rfl, by omega, by omega, by rw [d6]; exact f3, by rw [d6]; exact f4, fun G hG1 hG2 hG3 => ?_⟩, fun mc ms cs ss EI ER q En post h1 h2 hP hpost => kX1_leastPages_25 ⟨fun c => ?_, fun _ => ⟨fun c => ?_, fun _ => ⟨vp_in_nI (by omega) (by decide), lt1 - lt0, 2 ^ (lt1 + 1) - 2 ^ (lt0 + 1), ⟨by omega, by omega⟩, ?_⟩⟩⟩⟩
      · by_cases g : G < 2 ^ t
        · exact absurd hG3 (hno G g hG2)
        · by_cases g2 : G < 2 ^ (t + 1)
          · obtain ⟨c1, c2, c3, c4⟩ := top G g2 g hG2
            rw [c3] at hG3
            have := f5 _ c1 c2 hG3
            omega
          · omega
      · rw [nI_leI (by omega) (by omega)] at c
        omega
      · rw [hP.2.1, nI_leI (by omega) (by omega)] at c
        omega
      · rw [nI_clamp (by omega), hP.2.2 t (by omega), fa_or, nI_pred]
        refine ⟨_, a4 EI ER q En hP, fun rc I2 R2 q2 n2 hq => ?_⟩
        obtain ⟨w1, w2, w3, w4⟩ := hq
        refine ⟨fun c => ?_, fun _ => ?_⟩
        · rw [w1, e1] at c
          exact absurd c (m1_ne (by omega))
        · rw [w1, e1, tb_shl _ (by omega), tb_or]
          exact hpost I2 R2 q2 n2 w2 w3 w4
theorem PgS.keep {lt lt' : Nat} {EI I' : Nat → Int32} {ER R' : Nat → Nat → Int32} {En n' : Nat} (h : PgS B lt EI ER En) (hk : PkS B lt' I' R' n') (h1 : ∀ j, j ≠ 5 → I' j = EI j) (h2 : ∀ j, j ≠ 4 → R' j = ER j) : PgS B lt' I' R' n' := ⟨hk, by rw [h1 3 (by decide)]; exact h.2.1, fun g hg => by rw [h2 2 (by decide)]; exact h.2.2 g hg⟩
theorem sX1_least (hv : InvB B) {many : Nat} (hmany : many < 2 ^ 31) : ∀ d n lim oth lt0, n < d → n ≤ 14 → lim ≤ B.1 18 → oth < 2 ^ B.1 11 → lt0 ≤ B.1 11 → ∃ (r : Int32) (lt : Nat), lt0 ≤ lt ∧ lt ≤ B.1 11 ∧ LpR B n lim oth many lt r ∧ ∀ (EI : Nat → Int32) (ER : Nat → Nat → Int32) (q En : Nat), PgS B lt0 EI ER En → qX1_leastPages d (lt - lt0) (2 ^ (lt + 1) - 2 ^ (lt0 + 1)) (fun r' I' R' _ n' => r' = r ∧ PgS B lt I' R' n' ∧ (∀ j, j ≠ 5 → I' j = EI j) ∧ ∀ j, j ≠ 4 → R' j = ER j) (nI n) (nI lim) (nI oth) (nI many) EI ER q En
  | 0, n, lim, oth, lt0, hd, _, _, _, _ => by omega
  | d + 1, 0, lim, oth, lt0, hd, hn, hlim, hoth, hl0 => by
    have hpm := hv.pm
    have hoth14 : oth < 2 ^ 14 := Nat.lt_of_lt_of_le hoth (p2_14 hv.np)
    have hfl := few_le hv.size hoth14
    have hl14 : 2 ^ lim ≤ 2 ^ 14 := p2_14 (by omega)
    obtain ⟨lt, l1, l2, l3, l4⟩ := sX1_pagesFor (lt0 := lt0) hv hoth hl0
    have z0 : ∀ G, G < 2 ^ lim → cnt G = 0 → G = 0 := fun G h1 h2 => by
      rcases Nat.eq_zero_or_pos G with z | z
      · exact z
      · have := cnt_pos (S := G) (by omega) (by omega)
        omega
    have e0 : oth ||| onB B 0 (B.1 18) = oth := by rw [onB_0, Nat.or_zero]
    have go : ∀ r : Int32, (many < fewN (B.2 5) oth → r = -1) → (¬ many < fewN (B.2 5) oth → r = 0) → ∀ (EI : Nat → Int32) (ER : Nat → Nat → Int32) (q En : Nat), PgS B lt0 EI ER En → qX1_leastPages (d + 1) (lt - lt0) (2 ^ (lt + 1) - 2 ^ (lt0 + 1)) (fun r' I' R' _ n' => r' = r ∧ PgS B lt I' R' n' ∧ (∀ j, j ≠ 5 → I' j = EI j) ∧ ∀ j, j ≠ 4 → R' j = ER j) (nI 0) (nI lim) (nI oth) (nI many) EI ER q En := fun r hr1 hr2 EI ER q En hP => by
      refine ⟨fun c => absurd c (by decide), fun _ => ⟨_, _, ⟨by rw [Nat.zero_add]; exact Nat.le_refl _, by rw [Nat.zero_add]; exact Nat.le_refl _⟩, _, l4 EI ER q En hP.1, fun rc I2 R2 q2 n2 hq => ?_⟩⟩
      obtain ⟨w1, w2, w3, w4⟩ := hq
      rw [w1, nI_ltI hmany (by omega)]
      exact ⟨fun g => ⟨(hr1 g).symm, hP.keep w2 w3 w4, w3, w4⟩, fun g => ⟨(hr2 g).symm, hP.keep w2 w3 w4, w3, w4⟩⟩
    by_cases g : many < fewN (B.2 5) oth
    · refine ⟨-1, lt, l1, l2, Or.inl ⟨rfl, fun G h1 h2 => ?_⟩, go (-1) (fun _ => rfl) (fun g2 => absurd g g2)⟩
      rw [z0 G h1 h2, e0]
      omega
    · refine ⟨0, lt, l1, l2, Or.inr ⟨0, rfl, Nat.two_pow_pos lim, cnt_0, by rw [e0]; omega, by rw [e0]; exact l3, fun G _ _ _ => Nat.zero_le _⟩, go 0 (fun g2 => absurd g2 g) (fun _ => rfl)⟩
  | d + 1, n + 1, lim, oth, lt0, hd, hn, hlim, hoth, hl0 => by
    have hpm := hv.pm
    have hn14 : 2 ^ n ≤ 2 ^ 14 := p2_14 (by omega)
    by_cases gl : n ≤ lim
    · obtain ⟨r, lt, b1, b2, b3, b4⟩ := lp_loop hv (n := n) (many := many) (d := d) hlim hoth (fun t lt0 ht hl _ => sX1_least hv hmany d n t (oth ||| B.2 17 t) lt0 (by omega) (by omega) ht (Nat.or_lt_two_pow hoth (hv.pg t (by omega))) hl) (lim - n) n (by omega) lt0 hl0 (fun G hG1 hG2 => by
        have := cnt_lt hG1 (by omega)
        omega)
      refine ⟨r, lt, b1, b2, b3, fun EI ER q En hP => ⟨fun _ x5 e5 => ?_, fun c => ?_⟩⟩
      · rw [nI_pred] at e5
        rw [e5]
        exact b4 _ _ 0 0 EI ER q En _ (by omega) (by omega) hP (fun I' R' q' n' z1 z2 z3 => ⟨rfl, z1, z2, z3⟩)
      · exact absurd (by rw [show (0 : Int32) = nI 0 from rfl]; exact nI_lt (by omega) (by omega)) c
    · have hl14 : 2 ^ lim ≤ 2 ^ 14 := p2_14 (by omega)
      refine ⟨-1, lt0, Nat.le_refl _, hl0, Or.inl ⟨rfl, fun G hG1 hG2 => ?_⟩, fun EI ER q En hP => ⟨fun _ x5 e5 => ?_, fun c => ?_⟩⟩
      · have := cnt_lt hG1 (by omega)
        omega
      · rw [nI_pred] at e5
        rw [e5]
        refine kX1_leastPages_25 ⟨fun _ => ⟨rfl, hP, fun _ _ => rfl, fun _ _ => rfl⟩, fun c => ?_⟩
        rw [nI_leI (by omega) (by omega)] at c
        omega
      · exact absurd (by rw [show (0 : Int32) = nI 0 from rfl]; exact nI_lt (by omega) (by omega)) c
end
