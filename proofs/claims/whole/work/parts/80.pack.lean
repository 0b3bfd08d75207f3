/-! the reference: pack -/
theorem pts_n {sz : Nat → Nat} {S n : Nat} (h : S < 2 ^ n) (hn : n ≤ 14) : pts sz S n = pts sz S 14 := by
  have e : 14 = n + (14 - n) := by omega
  have e2 : pts sz S 14 = pts sz S n + fb_sm (fun k => if S.testBit (n + k) then sz (n + k) else 0) (14 - n) := by
    conv => lhs; rw [e]
    exact fb_sm_split _ n _
  have z : ∀ m, fb_sm (fun k => if S.testBit (n + k) then sz (n + k) else 0) m = 0 := fun m => by
    induction m with
    | zero => rfl
    | succ m ih =>
      rw [fb_sm_succ, ih, Nat.testBit_lt_two_pow (Nat.lt_of_lt_of_le h (Nat.pow_le_pow_right (by decide) (by omega)))]
      rfl
  rw [e2, z]
  rfl
def Pk4 (B : Bk) (M : Nat) (I0 : Nat → Int32) (R0 : Nat → Nat → Int32) : (Nat → Int32) → (Nat → Nat → Int32) → Prop := fun I R => I = I0 ∧ RM I0 R B ∧ (∀ U, subN U M → U ≠ 0 → R 24 U = nI (pts (B.2 5) U 14)) ∧ (∀ U, subN U M → R 25 U = nI (fewN (B.2 5) U)) ∧ ∀ j, j ≠ 24 → j ≠ 25 → R j = R0 j
theorem pts_le (B : Bk) (hv : InvB B) (S : Nat) : pts (B.2 5) S 14 ≤ 14 * 12 := by
  have : ∀ n, pts (B.2 5) S n ≤ n * 12 := fun n => by
    induction n with
    | zero => exact Nat.zero_le _
    | succ n ih =>
      rw [pts_succ]
      have := hv.size n
      split <;> omega
  exact this 14
section
variable {B : Bk} {I : Nat → Int32} {M : Nat}
theorem lX4_pk15 (hv : InvB B) {post : (Nat → Int32) → (Nat → Nat → Int32) → Prop} {s : Nat} (hs : s < 2 ^ B.1 11) (h0 : s ≠ 0) {R0 : Nat → Nat → Int32} (h1 : ∀ R : Nat → Nat → Int32, RM I R B → R 24 s = nI (pts (B.2 5) s 14) → (∀ U, U ≠ s → R 24 U = R0 24 U) → (∀ j, j ≠ 24 → R j = R0 j) → qX4_pack_2 post (nI M) (nI ((s - 1) &&& M)) I R) :
    ∀ n k, k + n = B.1 11 → ∀ R : Nat → Nat → Int32, RM I R B → R 24 s = nI (pts (B.2 5) s k) → (∀ U, U ≠ s → R 24 U = R0 24 U) → (∀ j, j ≠ 24 → R j = R0 j) → qX4_pack_15 post (nI M) (nI s) (nI k) I R
  | 0, k, e, R, h, hr, hU, hj => by
    have hn := hv.np
    have e : k = B.1 11 := by omega
    subst e
    refine kX4_pack_15 ⟨fun _ x2 e2 => ?_, fun c => ?_⟩
    · rw [dec_int h0] at e2
      rw [e2]
      exact h1 R h (by rw [hr, pts_n hs hn]) hU hj
    · rw [h.i11, nI_leI (by omega) (by omega)] at c
      omega
  | n + 1, k, e, R, h, hr, hU, hj => by
    have hn := hv.np
    have hs14 : s < 2 ^ 14 := Nat.lt_of_lt_of_le hs (p2_14 hn)
    refine kX4_pack_15 ⟨fun c => ?_, fun _ => ⟨fun c => ?_, fun c => ?_⟩⟩
    · rw [h.i11, nI_leI (by omega) (by omega)] at c
      omega
    · rw [tb_1 (by omega) (by omega)] at c
      rw [nI_1]
      exact lX4_pk15 hv hs h0 h1 n (k + 1) (by omega) R h (by rw [pts_succ, if_neg c]; exact hr) hU hj
    · rw [tb_1 (by omega) (by omega)] at c
      rw [nI_clamp (by omega), nI_clamp (by omega), nI_1]
      refine ⟨vp_in_nI hs14 (by decide), vp_in_nI (by omega) (by decide), ?_⟩
      refine lX4_pk15 hv hs h0 h1 n (k + 1) (by omega) _ (h.upR (j := 24) (by decide) _) ?_ (fun U hU2 => ?_) (fun j hj2 => by rw [vu_ne hj2]; exact hj j hj2)
      · rw [vu_eq, pk_us, hr, h.r5, nI_add, pts_succ, if_pos c]
      · rw [vu_eq, pk_un hU2]; exact hU U hU2
theorem lX4_pk2 (hv : InvB B) {post : (Nat → Int32) → (Nat → Nat → Int32) → Prop} (hM : M < 2 ^ B.1 11) {R0 : Nat → Nat → Int32} (h1 : ∀ R : Nat → Nat → Int32, RM I R B → (∀ U, subN U M → U ≠ 0 → R 24 U = nI (pts (B.2 5) U 14)) → (∀ j, j ≠ 24 → R j = R0 j) → ∀ x2 : Int32, x2 = (-nI M) &&& nI M → qX4_pack_74 post (nI M) x2 I (va_up R 25 (upd (R 25) 0 0))) :
    ∀ m s, s ≤ m → subN s M → ∀ R : Nat → Nat → Int32, RM I R B → (∀ U, subN U M → s < U → R 24 U = nI (pts (B.2 5) U 14)) → (∀ j, j ≠ 24 → R j = R0 j) → qX4_pack_2 post (nI M) (nI s) I R
  | m, s, hm, hsub, R, h, hU, hj => by
    have hn := hv.np
    have hs := sub_lt hsub hM
    have hs14 : s < 2 ^ 14 := Nat.lt_of_lt_of_le hs (p2_14 hn)
    refine kX4_pack_2 ⟨fun c => ?_, fun c => ?_⟩
    · rw [show (0 : Int32) = nI 0 from rfl, nI_leI (by omega) (by omega)] at c
      exact h1 R h (fun U hU1 hU0 => hU U hU1 (by omega)) hj
    · rw [show (0 : Int32) = nI 0 from rfl, nI_leI (by omega) (by omega)] at c
      have h0 : s ≠ 0 := by omega
      rw [nI_clamp (by omega)]
      refine ⟨vp_in_nI hs14 (by decide), ?_⟩
      match m, hm with
      | 0, hm => omega
      | m + 1, hm =>
        have hle : (s - 1) &&& M ≤ s - 1 := Nat.and_le_left
        refine lX4_pk15 hv hs h0 (R0 := R) (fun R2 g1 g2 g3 g4 => ?_) _ 0 (Nat.zero_add _) _ (h.upR (j := 24) (by decide) _) (by rw [vu_eq, pk_us]; rfl) (fun U hU2 => by rw [vu_eq, pk_un hU2]) (fun j hj2 => vu_ne hj2)
        refine lX4_pk2 hv hM h1 m _ (by omega) (fun i hi => by rw [Nat.testBit_and, Bool.and_eq_true] at hi; exact hi.2) R2 g1 (fun U hU1 hU2 => ?_) (fun j hj2 => (g4 j hj2).trans (hj j hj2))
        by_cases e : U = s
        · subst e; exact g2
        · rw [g3 U e]
          refine hU U hU1 ?_
          rcases Nat.lt_or_ge s U with z | z
          · exact z
          · have := sm_dec _ s M U hs (and_sub hsub) (and_sub hU1) (by omega)
            omega
/-- part and page -/
theorem pg_of {s j V : Nat} (hj : s.testBit j = true) (hV : subN V (s ^^^ 2 ^ j)) : subN (V ||| 2 ^ j) s ∧ s ^^^ (V ||| 2 ^ j) = (s ^^^ 2 ^ j) ^^^ V ∧ V ||| 2 ^ j ≠ 0 ∧ (V ||| 2 ^ j).testBit j = true ∧ V ||| 2 ^ j = V ^^^ 2 ^ j := by
  have hVj : V.testBit j = false := by
    cases e : V.testBit j
    · rfl
    · have := hV j e
      rw [xtb (sub_p2 hj), Nat.testBit_two_pow_self] at this
      simp at this
  have e1 : V ||| 2 ^ j = V ^^^ 2 ^ j := by
    apply Nat.eq_of_testBit_eq
    intro i
    rw [Nat.testBit_or, Nat.testBit_xor, Nat.testBit_two_pow]
    by_cases e : j = i
    · subst e; rw [hVj]; simp
    · simp [e]
  have hb : (V ||| 2 ^ j).testBit j = true := by rw [Nat.testBit_or, Nat.testBit_two_pow_self, Bool.or_true]
  refine ⟨fun i hi => ?_, ?_, (fun e => by rw [e, Nat.zero_testBit] at hb; cases hb), hb, e1⟩
  · rw [Nat.testBit_or, Bool.or_eq_true] at hi
    rcases hi with hi | hi
    · exact sub_x (sub_p2 hj) i (hV i hi)
    · exact sub_p2 hj i hi
  · rw [e1, Nat.xor_comm V, Nat.xor_assoc]
theorem pg_to {s j T : Nat} (hs : subN T s) (hj : T.testBit j = true) : subN (T ^^^ 2 ^ j) (s ^^^ 2 ^ j) ∧ (T ^^^ 2 ^ j) ||| 2 ^ j = T := by
  have hsj := hs j hj
  refine ⟨fun i hi => ?_, ?_⟩
  · rw [xtb (sub_p2 hj), Bool.and_eq_true] at hi
    rw [xtb (sub_p2 hsj), hs i hi.1, hi.2]; rfl
  · apply Nat.eq_of_testBit_eq
    intro i
    rw [Nat.testBit_or, xtb (sub_p2 hj), Nat.testBit_two_pow]
    by_cases e : j = i
    · subst e; rw [hj]; simp
    · simp [e]
theorem lX4_pk100 (hv : InvB B) {post : (Nat → Int32) → (Nat → Nat → Int32) → Prop} (hM : M < 2 ^ B.1 11) {s j : Nat} (hsub : subN s M) (hj : s.testBit j = true) {R0 : Nat → Nat → Int32}
    (h1 : ∀ R : Nat → Nat → Int32, RM I R B → (∀ U, subN U M → U ≠ 0 → R 24 U = nI (pts (B.2 5) U 14)) → (∀ U, subN U M → U ≤ s → R 25 U = nI (fewN (B.2 5) U)) → (∀ j, j ≠ 24 → j ≠ 25 → R j = R0 j) → qX4_pack_74 post (nI M) (nI ((s + (2 ^ 32 - M)) &&& M)) I R) :
    ∀ m part, part ≤ m → subN part (s ^^^ 2 ^ j) → ∀ (R : Nat → Nat → Int32) (w : Nat), RM I R B → (∀ U, subN U M → U ≠ 0 → R 24 U = nI (pts (B.2 5) U 14)) → (∀ U, subN U M → U < s → R 25 U = nI (fewN (B.2 5) U)) → (∀ j, j ≠ 24 → j ≠ 25 → R j = R0 j) → R 25 s = nI w → w ≤ 15 → (w = 15 ∨ ∃ V, subN V (s ^^^ 2 ^ j) ∧ pts (B.2 5) (V ||| 2 ^ j) 14 ≤ 12 ∧ w = 1 + fewN (B.2 5) ((s ^^^ 2 ^ j) ^^^ V)) → (∀ V, subN V (s ^^^ 2 ^ j) → part < V → pts (B.2 5) (V ||| 2 ^ j) 14 ≤ 12 → w ≤ 1 + fewN (B.2 5) ((s ^^^ 2 ^ j) ^^^ V)) → qX4_pack_100 post (nI M) (nI s) (nI (2 ^ j)) (nI (s ^^^ 2 ^ j)) (nI part) I R
  | m, part, hm, hpart, R, w, h, h24, h25, hR, hw, hw15, hwa, hwb => by
    have hn := hv.np
    have hs := sub_lt hsub hM
    have hs14 : s < 2 ^ 14 := Nat.lt_of_lt_of_le hs (p2_14 hn)
    obtain ⟨a1, a2, a3, a4, a5⟩ := pg_of hj hpart
    have hof := sub_lt a1 hs14
    have hofM : subN (part ||| 2 ^ j) M := fun i hi => hsub i (a1 i hi)
    have hptl := pts_le B hv (part ||| 2 ^ j)
    have hrs := sub_x (sub_p2 hj)
    have hr14 : s ^^^ 2 ^ j < 2 ^ 14 := sub_lt hrs hs14
    have hrp : subN ((s ^^^ 2 ^ j) ^^^ part) s := fun i hi => hrs i (sub_x hpart i hi)
    have hrp14 := sub_lt hrp hs14
    have hrplt : (s ^^^ 2 ^ j) ^^^ part < s := by
      have b1 := sub_leN (sub_x hpart)
      have b2 := xor_sub hj
      have b3 := Nat.two_pow_pos j
      omega
    have hfl := few_le hv.size hrp14
    have hp14 : part < 2 ^ 14 := sub_lt hpart hr14
    have next : ∀ (R : Nat → Nat → Int32) (w : Nat), RM I R B → (∀ U, subN U M → U ≠ 0 → R 24 U = nI (pts (B.2 5) U 14)) → (∀ U, subN U M → U < s → R 25 U = nI (fewN (B.2 5) U)) → (∀ j, j ≠ 24 → j ≠ 25 → R j = R0 j) → R 25 s = nI w → w ≤ 15 → (w = 15 ∨ ∃ V, subN V (s ^^^ 2 ^ j) ∧ pts (B.2 5) (V ||| 2 ^ j) 14 ≤ 12 ∧ w = 1 + fewN (B.2 5) ((s ^^^ 2 ^ j) ^^^ V)) → (∀ V, subN V (s ^^^ 2 ^ j) → part ≤ V → pts (B.2 5) (V ||| 2 ^ j) 14 ≤ 12 → w ≤ 1 + fewN (B.2 5) ((s ^^^ 2 ^ j) ^^^ V)) → qX4_pack_141 post (nI M) (nI s) (nI (2 ^ j)) (nI (s ^^^ 2 ^ j)) (nI part) I R := by
      intro R w h h24 h25 hR hw hw15 hwa hwb
      refine kX4_pack_141 ⟨fun c x5 e5 => ?_, fun c x2 e2 => ?_⟩
      · rw [nI_z (by omega)] at c
        rw [dec_int c] at e5
        rw [e5]
        have hle : (part - 1) &&& (s ^^^ 2 ^ j) ≤ part - 1 := Nat.and_le_left
        match m, hm with
        | 0, hm => omega
        | m + 1, hm =>
          refine lX4_pk100 hv hM hsub hj h1 m _ (by omega) (fun i hi => by rw [Nat.testBit_and, Bool.and_eq_true] at hi; exact hi.2) R w h h24 h25 hR hw hw15 hwa (fun V hV1 hV2 hV3 => hwb V hV1 ?_ hV3)
          rcases Nat.lt_or_ge V part with z | z
          · have := sm_dec _ part _ V hp14 (and_sub hpart) (and_sub hV1) z
            omega
          · exact z
      · rw [nI_z (by omega)] at c
        subst c
        rw [nx_int s (Nat.lt_trans (Nat.lt_of_lt_of_le hM (p2_14 hn)) (by decide))] at e2
        rw [e2]
        refine h1 R h h24 (fun U hU1 hU2 => ?_) hR
        by_cases e : U = s
        · subst e
          rw [hw]
          congr 1
          obtain ⟨T, t1, t2, t3, t4⟩ := few_page hv.size hs14 hj
          obtain ⟨v1, v2⟩ := pg_to t2 t1
          obtain ⟨-, v4, -⟩ := pg_of hj v1
          rw [v2] at v4
          have b1 := hwb _ v1 (Nat.zero_le _) (by rw [v2]; exact t3)
          rw [← v4] at b1
          have b2 := few_le hv.size hs14
          rcases hwa with g | ⟨V, g1, g2, g3⟩
          · omega
          · obtain ⟨c1, c2, c3, -, -⟩ := pg_of hj g1
            have := few_ge hv.size hs14 c3 c1 g2
            rw [c2] at this
            omega
        · exact h25 U hU1 (by omega)
    refine kX4_pack_100 ?_
    rw [fa_or, fb_xorI, nI_clamp (by omega), nI_clamp (by omega), nI_clamp (by omega), h24 _ hofM a3, hw, h25 _ (fun i hi => hsub i (hrp i hi)) hrplt, show (1 : Int32) = nI 1 from rfl, nI_add, show (12 : Int32) = nI 12 from rfl, nI_ltI (by omega) (by omega)]
    refine ⟨vp_in_nI hof (by decide), fun g => next R w h h24 h25 hR hw hw15 hwa (fun V hV1 hV2 hV3 => ?_), fun g => ⟨vp_in_nI hs14 (by decide), vp_in_nI hrp14 (by decide), fun v ev => ?_⟩⟩
    · by_cases e : V = part
      · subst e; omega
      · exact hwb V hV1 (by omega) hV3
    · have ev2 : v = nI (if 1 + fewN (B.2 5) ((s ^^^ 2 ^ j) ^^^ part) < w then 1 + fewN (B.2 5) ((s ^^^ 2 ^ j) ^^^ part) else w) := by
        rw [ev]
        by_cases z : 1 + fewN (B.2 5) ((s ^^^ 2 ^ j) ^^^ part) < w
        · rw [if_pos z, if_pos (nI_lt z (by omega))]
        · rw [if_neg z, if_neg (nI_nlt (by omega) (by omega))]
      subst ev2
      refine next _ (if 1 + fewN (B.2 5) ((s ^^^ 2 ^ j) ^^^ part) < w then 1 + fewN (B.2 5) ((s ^^^ 2 ^ j) ^^^ part) else w) (h.upR (j := 25) (by decide) _) (fun U hU1 hU2 => by rw [vu_ne (by decide)]; exact h24 U hU1 hU2) (fun U hU1 hU2 => by rw [vu_eq, pk_un (by omega)]; exact h25 U hU1 hU2) (fun i hi1 hi2 => by rw [vu_ne hi2]; exact hR i hi1 hi2) (by rw [vu_eq, pk_us]) (by split <;> omega) ?_ (fun V hV1 hV2 hV3 => ?_)
      · by_cases z : 1 + fewN (B.2 5) ((s ^^^ 2 ^ j) ^^^ part) < w
        · rw [if_pos z]
          exact Or.inr ⟨part, hpart, by omega, rfl⟩
        · rw [if_neg z]
          exact hwa
      · by_cases e : V = part
        · subst e
          split <;> omega
        · have := hwb V hV1 (by omega) hV3
          split <;> omega
theorem lX4_pk74 (hv : InvB B) {R0 : Nat → Nat → Int32} (hM : M < 2 ^ B.1 11) : ∀ d s, M - s ≤ d → subN s M → s ≠ 0 → ∀ R : Nat → Nat → Int32, RM I R B → (∀ U, subN U M → U ≠ 0 → R 24 U = nI (pts (B.2 5) U 14)) → (∀ U, subN U M → U < s → R 25 U = nI (fewN (B.2 5) U)) → (∀ j, j ≠ 24 → j ≠ 25 → R j = R0 j) → qX4_pack_74 (Pk4 B M I R0) (nI M) (nI s) I R
  | d, s, hd, hsub, h0, R, h, h24, h25, hR => by
    have hn := hv.np
    have hs := sub_lt hsub hM
    have hs14 : s < 2 ^ 14 := Nat.lt_of_lt_of_le hs (p2_14 hn)
    have hM14 : M < 2 ^ 14 := Nat.lt_of_lt_of_le hM (p2_14 hn)
    obtain ⟨j, hj14, hj⟩ := low_ex hs14 h0
    refine kX4_pack_74 ⟨fun c => ?_, fun _ => ⟨vp_in_nI hs14 (by decide), fun x3 e3 x4 e4 => ?_⟩⟩
    · rw [nI_z (by omega)] at c
      exact absurd c h0
    · rw [low_int (by omega) hj] at e3
      rw [e3, fb_xorI] at e4
      rw [e3, e4, nI_clamp (by omega)]
      refine lX4_pk100 hv hM hsub hj.1 (R0 := R0) (fun R g g24 g25 gR => ?_) (s ^^^ 2 ^ j) (s ^^^ 2 ^ j) (Nat.le_refl _) (fun i hi => hi) _ 15 (h.upR (j := 25) (by decide) _) (fun U hU1 hU2 => by rw [vu_ne (by decide)]; exact h24 U hU1 hU2) (fun U hU1 hU2 => by rw [vu_eq, pk_un (by omega)]; exact h25 U hU1 hU2) (fun i hi1 hi2 => by rw [vu_ne hi2]; exact hR i hi1 hi2) (by rw [vu_eq, pk_us]; rfl) (Nat.le_refl _) (Or.inl rfl) (fun V hV1 hV2 => ?_)
      · by_cases e : s = M
        · rw [e, sm_full (by omega)]
          refine kX4_pack_74 ⟨fun _ => ⟨rfl, g, g24, fun U hU => g25 U hU (by rw [e]; exact sub_leN hU), gR⟩, fun c => absurd rfl c⟩
        · have hlt : s < M := by
            have := sub_leN hsub
            omega
          obtain ⟨n1, n2⟩ := sm_nx 32 s M M (by omega) (and_sub hsub) (Nat.and_self M) hlt
          match d, hd with
          | 0, hd => omega
          | d + 1, hd =>
            refine lX4_pk74 hv hM d _ (by omega) (fun i hi => by rw [Nat.testBit_and, Bool.and_eq_true] at hi; exact hi.2) (by omega) R g g24 (fun U hU1 hU2 => g25 U hU1 ?_) gR
            rcases Nat.lt_or_ge s U with z | z
            · have := (sm_nx 32 s M U (by omega) (and_sub hsub) (and_sub hU1) z).1
              omega
            · exact z
      · have := sub_leN hV1
        omega
theorem sX4_pack (hv : InvB B) {R : Nat → Nat → Int32} (h : RM I R B) (hM : M < 2 ^ B.1 11) : qX4_pack (Pk4 B M I R) (nI M) I R := by
  have hn := hv.np
  have hM14 : M < 2 ^ 14 := Nat.lt_of_lt_of_le hM (p2_14 hn)
  refine lX4_pk2 hv hM (R0 := R) (fun R2 g g24 gR x2 e2 => ?_) M M (Nat.le_refl _) (fun i hi => hi) R h (fun U hU1 hU2 => ?_) (fun _ _ => rfl)
  · have z0 : (va_up R2 25 (upd (R2 25) 0 0)) 25 0 = nI (fewN (B.2 5) 0) := by rw [vu_eq, pk_us, few_0]; rfl
    by_cases e : M = 0
    · subst e
      have e3 : x2 = 0 := by rw [e2]; rfl
      rw [e3]
      refine kX4_pack_74 ⟨fun _ => ⟨rfl, g.upR (j := 25) (by decide) _, fun U hU1 hU2 => by rw [vu_ne (by decide)]; exact g24 U hU1 hU2, fun U hU => ?_, fun i hi1 hi2 => by rw [vu_ne hi2]; exact gR i hi1⟩, fun c => absurd rfl c⟩
      have := sub_leN hU
      have : U = 0 := by omega
      subst this
      exact z0
    · obtain ⟨j, hj14, hj⟩ := low_ex hM14 e
      rw [low_int2 (by omega) hj] at e2
      rw [e2]
      refine lX4_pk74 hv hM _ _ (Nat.le_refl _) (sub_p2 hj.1) (p2_ne j) _ (g.upR (j := 25) (by decide) _) (fun U hU1 hU2 => by rw [vu_ne (by decide)]; exact g24 U hU1 hU2) (fun U hU1 hU2 => ?_) (fun i hi1 hi2 => by rw [vu_ne hi2]; exact gR i hi1)
      have : U = 0 := by
        rcases Nat.eq_zero_or_pos U with z | z
        · exact z
        · have h9 := (sm_nx 32 0 M U (by omega) (Nat.zero_and M) (and_sub hU1) z).1
          rw [Nat.zero_add, low_is (by omega) hj] at h9
          omega
      subst this
      exact z0
  · have := sub_leN hU1
    omega
end
/-! fewest -/
theorem RCc.pk {I : Nat → Int32} {R : Nat → Nat → Int32} {EI : Nat → Int32} {ER : Nat → Nat → Int32} {En : Nat} {V : vS} {B : Bk} {lt : Nat} (h : RCc I R EI ER En V B lt) : PkS B lt EI ER En := ⟨h.2.2.2.1.1, h.2.2.2.1.2.2.1, h.2.2.2.2.1, h.2.2.2.2.2.1, h.2.2.2.2.2.2.1, h.2.2.2.2.2.2.2⟩
theorem RCc.withPk {I : Nat → Int32} {R : Nat → Nat → Int32} {EI EI' : Nat → Int32} {ER ER' : Nat → Nat → Int32} {En En' : Nat} {V : vS} {B : Bk} {lt lt' : Nat} (h : RCc I R EI ER En V B lt) (hk : PkS B lt' EI' ER' En') (e3 : EI' 3 = EI 3) (e2 : ER' 2 = ER 2) : RCc I R EI' ER' En' V B lt' := by
  obtain ⟨a1, a2, a3, ⟨b1, b2, b3, b4⟩, c⟩ := h
  obtain ⟨k1, k2, k3, k4, k5, k6⟩ := hk
  exact ⟨a1, a2, a3, ⟨k1, by rw [e3]; exact b2, k2, fun g hg => by rw [e2]; exact b4 g hg⟩, k3, k4, k5, k6⟩
theorem ag_fewest : Ag_fewest JJ := fun {k c s u v} hk hj => by
  obtain ⟨B, lt, hv, hg, hc, hm, h1, h2⟩ := hj
  have hn := hv.np
  have hch := ch_lt hv
  have h9 := hm.upI (j := 19) (by decide) 0
  obtain ⟨lt', l1, l2, l3, l4⟩ := sX1_pagesFor (lt0 := lt) hv hv.ch (RCc.pk hc).2.2.1
  have hpw : 2 ^ (lt' + 1) ≤ 2 ^ 15 := Nat.pow_le_pow_right (by decide) (by omega)
  have hpl : 2 ^ (lt + 1) ≤ 2 ^ (lt' + 1) := Nat.pow_le_pow_right (by decide) (by omega)
  refine ⟨lt' - lt, 2 ^ (lt' + 1) - 2 ^ (lt + 1), fun r I R CI CJ CR CG EI ER Eq En V => r = nI (fewN (B.2 5) (B.1 16)) ∧ RC (I, R, CI, CJ, CR, CG, EI, ER, Eq, En, V) B lt', by omega, by omega, ?_, fun r u' hr => ⟨pQ B (nI (fewN (B.2 5) (B.1 16))), ?_, fun r' v' hq => ⟨hr.1.trans hq.1.symm, B, lt', hv, hg, hr.2, hq.2, by omega, by omega⟩⟩⟩
  · refine ⟨_, _, ⟨by rw [Nat.zero_add]; exact Nat.le_refl _, by rw [Nat.zero_add]; exact Nat.le_refl _⟩, _, (by rw [RCc.i6 hc]; exact l4 _ _ _ _ (RCc.pk hc)), fun r EI ER Eq En hq => ?_⟩
    obtain ⟨q1, q2, q3, q4⟩ := hq
    exact ⟨q1, RCc.withPk hc q2 (q3 3 (by decide)) (q4 2 (by decide))⟩
  · unfold qX4_fewest
    rw [hm.i16]
    refine ⟨_, sX4_pack hv h9 hv.ch, fun I2 R2 hq => ?_⟩
    obtain ⟨q1, q2, q3, q4, q5⟩ := hq
    subst q1
    have e16 : (va_up v.1 19 0) 16 = nI (B.1 16) := h9.i16
    rw [e16, nI_clamp (by omega)]
    exact ⟨vp_in_nI hch (by decide), q4 _ (fun i hi => hi), q2⟩
