/-! proof -/
def kthI (P : Nat → Bool) : Nat → Nat → Nat → Int32
  | 0, _, _ => -1
  | m + 1, k, i => if P k then (if i = 0 then nI k else kthI P m (k + 1) (i - 1)) else kthI P m (k + 1) i
def chSeen (B : Bk) (c p : Nat) : Bool := (B.1 16).testBit p && (seenB B p).testBit c
def proofI (a i : Int32) (B : Bk) : Int32 := if isIn a (B.1 2) then (if 0 ≤ i then kthI (chSeen B a.toNatClampNeg) (B.1 11) 0 i.toNatClampNeg else -1) else -1
theorem nI_m1 (n : Nat) : nI (n + 1) + (-1) = nI n := by
  rw [iI_nat, iI_nat, show (-1 : Int32) = iI (-1) from rfl, iI_add]
  congr 1
  omega
section
variable {I : Nat → Int32} {R : Nat → Nat → Int32} {CI : Nat → Int32} {CJ : Nat → Int64} {CR : Nat → Nat → Int32} {CG : Nat → Nat → Int64} {EI : Nat → Int32} {ER : Nat → Nat → Int32} {Eq En : Nat} {V : vS} {B : Bk} {lt : Nat}
theorem lX3_proof (h : RCc I R EI ER En V B lt) (hv : InvB B) {c i : Nat} (hc : c < 16) (hi : i < 2 ^ 31) {a : Int32} : ∀ n k b, k + n = B.1 11 → b ≤ i → kthI (chSeen B c) n k (i - b) = a → qX3_proof_19 (fun r => r = a) (nI c) (nI i) I R CI CJ CR CG EI ER Eq En V (nI b) (nI k)
  | 0, k, b, e, hb, ha => by
    have hn := hv.np
    refine kX3_proof_19 ⟨fun _ => ha, fun c => ?_⟩
    rw [h.i4, nI_leI (by omega) (by omega)] at c
    omega
  | n + 1, k, b, e, hb, ha => by
    have hn := hv.np
    have hs := seenB_lt hv k
    rw [kthI] at ha
    have no : chSeen B c k = false → qX3_proof_19 (fun r => r = a) (nI c) (nI i) I R CI CJ CR CG EI ER Eq En V (nI b) (nI k + 1) := fun hz => by
      rw [hz, if_neg (by decide)] at ha
      rw [nI_1]
      exact lX3_proof h hv hc hi n (k + 1) b (by omega) hb ha
    refine kX3_proof_19 ⟨fun c => ?_, fun _ => ⟨_, sX3_isChosen h hv (p := k) (by omega), fun rc hrc => ⟨fun c1 => no ?_, fun c1 => ⟨_, sX3_shownIn h hv (p := k) (by omega), fun rc2 hrc2 => ⟨fun c2 => no ?_, fun c2 => ?_⟩⟩⟩⟩⟩
    · rw [h.i4, nI_leI (by omega) (by omega)] at c
      omega
    · rw [hrc, b2i_0] at c1
      unfold chSeen
      rw [c1]; rfl
    · rw [hrc2, tb_0 (by omega) (by omega)] at c2
      unfold chSeen
      rw [c2, Bool.and_false]
    · rw [hrc, b2i_n0] at c1
      rw [hrc2, tb_0 (by omega) (by omega)] at c2
      have hz : chSeen B c k = true := by unfold chSeen; rw [c1, of_not_false c2]; rfl
      rw [hz, if_pos rfl] at ha
      rw [nI_eq (by omega) (by omega)]
      refine ⟨fun c3 => ?_, fun c3 => ?_⟩
      · rw [if_neg (by omega)] at ha
        rw [nI_1, nI_1]
        exact lX3_proof h hv hc hi n (k + 1) (b + 1) (by omega) (by omega) (by rw [← ha]; rfl)
      · rw [if_pos (by omega)] at ha
        exact ha
theorem lX4_proof (hv : InvB B) {c : Nat} (hc : c < 16) {a p2 : Int32} : ∀ n k b, k + n = B.1 11 → b < 2 ^ 31 → kthI (chSeen B c) n k b = a → ∀ R : Nat → Nat → Int32, RM I R B → qX4_proof_24 (pQ B a) (nI c) p2 (nI b) (nI k) I R
  | 0, k, b, e, hb, ha, R, h => by
    have hn := hv.np
    refine kX4_proof_24 ⟨fun _ => ⟨ha, h⟩, fun c => ?_⟩
    rw [h.i11, nI_leI (by omega) (by omega)] at c
    omega
  | n + 1, k, b, e, hb, ha, R, h => by
    have hn := hv.np
    have hch := ch_lt hv
    have hs := seenB_lt hv k
    rw [kthI] at ha
    refine kX4_proof_24 ⟨fun c => ?_, fun _ => ⟨fun c1 => ?_, fun c1 => ⟨_, sX4_seenIn h hv (p := k) (by omega), fun rc I1 R1 hq => ⟨fun c2 => ⟨fun c3 => ?_, fun c3 => ?_⟩, fun c2 => ?_⟩⟩⟩⟩
    · rw [h.i11, nI_leI (by omega) (by omega)] at c
      omega
    · rw [h.i16, tb_0 (by omega) (by omega)] at c1
      have hz : chSeen B c k = false := by unfold chSeen; rw [c1]; rfl
      rw [hz, if_neg (by decide)] at ha
      rw [nI_1]
      exact lX4_proof hv hc n (k + 1) b (by omega) hb ha R h
    · rw [h.i16, tb_0 (by omega) (by omega)] at c1
      rw [hq.1, tb_0 (by omega) (by omega)] at c2
      have hz : chSeen B c k = true := by unfold chSeen; rw [of_not_false c1, of_not_false c2]; rfl
      rw [nI_z hb] at c3
      rw [hz, if_pos rfl, if_neg c3] at ha
      rw [nI_1, hq.2.1, show b = (b - 1) + 1 by omega, nI_m1]
      exact lX4_proof hv hc n (k + 1) (b - 1) (by omega) (by omega) ha R1 hq.2.2.1
    · rw [h.i16, tb_0 (by omega) (by omega)] at c1
      rw [hq.1, tb_0 (by omega) (by omega)] at c2
      have hz : chSeen B c k = true := by unfold chSeen; rw [of_not_false c1, of_not_false c2]; rfl
      rw [nI_z hb] at c3
      rw [hz, if_pos rfl, if_pos c3] at ha
      exact ⟨ha, by rw [hq.2.1]; exact hq.2.2.1⟩
    · rw [hq.1, tb_0 (by omega) (by omega)] at c2
      have hz : chSeen B c k = false := by unfold chSeen; rw [c2, Bool.and_false]
      rw [hz, if_neg (by decide)] at ha
      rw [nI_1, hq.2.1]
      exact lX4_proof hv hc n (k + 1) b (by omega) hb ha R1 hq.2.2.1
end
theorem nI_get0 {i : Int32} (h : 0 ≤ i) : ∃ j, j < 2 ^ 31 ∧ i = nI j := nI_of (fun c => by rw [fa_lt] at c; rw [fa_le] at h; omega)
theorem ag_proof : Ag_proof JJ := fun {k c s u v} a i hk hj => query hj (fun P => qX3_proof P a i u.1 u.2.1 u.2.2.1 u.2.2.2.1 u.2.2.2.2.1 u.2.2.2.2.2.1 u.2.2.2.2.2.2.1 u.2.2.2.2.2.2.2.1 u.2.2.2.2.2.2.2.2.1 u.2.2.2.2.2.2.2.2.2.1 u.2.2.2.2.2.2.2.2.2.2) (fun P => qX4_proof P a i v.1 v.2) (proofI a i) (fun B lt hv hg hc => by
    have hn := hv.nc
    refine ⟨_, sX3_isChild hc hv a, fun rc hrc => ⟨fun e => ?_, fun e => ⟨fun c1 => ?_, fun c1 => ?_⟩⟩⟩
    · rw [hrc, b2i_0] at e
      show (-1 : Int32) = proofI a i B
      unfold proofI
      rw [e]; rfl
    · rw [hrc, b2i_n0] at e
      obtain ⟨j, hj9, rfl⟩ := isIn_get e
      obtain ⟨i, hi, rfl⟩ := nI_get0 c1
      unfold proofI
      rw [e, if_pos rfl, if_pos c1, nI_clamp (by omega), nI_clamp hi]
      exact lX3_proof hc hv (by omega) hi _ 0 0 (Nat.zero_add _) (Nat.zero_le _) rfl
    · rw [hrc, b2i_n0] at e
      show (-1 : Int32) = proofI a i B
      unfold proofI
      rw [e, if_pos rfl, if_neg c1]) (fun B hv hg hm => by
    have hn := hv.nc
    have h9 := hm.upI (j := 19) (by decide) 0
    refine ⟨_, sX4_isChild h9 hv a, fun rc hrc => ⟨fun e => ⟨?_, h9⟩, fun e => ⟨fun c1 => ?_, fun c1 => ⟨?_, h9⟩⟩⟩⟩
    · rw [hrc, b2i_0] at e
      unfold proofI
      rw [e]; rfl
    · rw [hrc, b2i_n0] at e
      obtain ⟨j, hj9, rfl⟩ := isIn_get e
      obtain ⟨i, hi, rfl⟩ := nI_get0 c1
      unfold proofI
      rw [e, if_pos rfl, if_pos c1, nI_clamp (by omega), nI_clamp hi]
      exact lX4_proof hv (by omega) _ 0 i (Nat.zero_add _) hi rfl _ h9
    · rw [hrc, b2i_n0] at e
      unfold proofI
      rw [e, if_pos rfl, if_neg c1])
/-! page, left -/
section
variable {I : Nat → Int32} {R : Nat → Nat → Int32} {CI : Nat → Int32} {CJ : Nat → Int64} {CR : Nat → Nat → Int32} {CG : Nat → Nat → Int64} {EI : Nat → Int32} {ER : Nat → Nat → Int32} {Eq En : Nat} {V : vS} {B : Bk} {lt : Nat}
theorem sX1_has (h : RCc I R EI ER En V B lt) (hv : InvB B) (a : Int32) : qX1_has (fun r => r = b2i (isIn a (B.1 18))) a EI ER Eq En := by
  have hn := hv.pm
  unfold qX1_has isIn
  rw [fa_lt, h.e3, fa_le, nI_toInt (by omega)]
  refine ⟨fun c => ?_, fun c => ⟨fun c2 => ?_, fun c2 => ?_⟩⟩
  · have c : a.toInt < 0 := c
    show (0 : Int32) = _
    rw [decide_eq_false (by omega)]; rfl
  · show (0 : Int32) = _
    rw [decide_eq_false (by omega)]; rfl
  · have c : ¬ a.toInt < 0 := c
    show (1 : Int32) = _
    rw [decide_eq_true (by omega)]; rfl
theorem pts_succ (sz : Nat → Nat) (S n : Nat) : pts sz S (n + 1) = pts sz S n + (if S.testBit n then sz n else 0) := rfl
theorem lX4_pointsOf (h : RM I R B) (hv : InvB B) {S : Nat} (hS : S < 2 ^ 31) : ∀ n k, k + n = B.1 11 → qX4_pointsOf_4 (fun r => r = nI (pts (B.2 5) S (B.1 11))) (nI S) I R (nI (pts (B.2 5) S k)) (nI k)
  | 0, k, e => by
    have hn := hv.np
    refine kX4_pointsOf_4 ⟨fun _ => ?_, fun c => ?_⟩
    · have e : k = B.1 11 := by omega
      subst e
      rfl
    · rw [h.i11, nI_leI (by omega) (by omega)] at c
      omega
  | n + 1, k, e => by
    have hn := hv.np
    have ih := lX4_pointsOf h hv hS n (k + 1) (by omega)
    rw [← nI_1, pts_succ] at ih
    refine kX4_pointsOf_4 ⟨fun c => ?_, fun _ => ⟨fun c => ?_, fun c => ⟨vp_in_nI (by omega) (by decide), fun x2 ex2 => ?_⟩⟩⟩
    · rw [h.i11, nI_leI (by omega) (by omega)] at c
      omega
    · rw [tb_1 hS (by omega)] at c
      rw [if_neg c, Nat.add_zero] at ih
      exact ih
    · rw [tb_1 hS (by omega)] at c
      rw [if_pos c] at ih
      rw [ex2, nI_clamp (by omega), h.r5, nI_add]
      exact ih
theorem sX4_pointsOf (h : RM I R B) (hv : InvB B) {S : Nat} (hS : S < 2 ^ 31) : qX4_pointsOf (fun r => r = nI (pts (B.2 5) S (B.1 11))) (nI S) I R := lX4_pointsOf h hv hS _ 0 (Nat.zero_add _)
theorem lX1_pointsOf (h1 : EI 1 = nI (B.1 11)) (h0 : ∀ p, p < B.1 11 → ER 0 p = nI (B.2 5 p)) (hv : InvB B) {S : Nat} (hS : S < 2 ^ 31) : ∀ n k, k + n = B.1 11 → qX1_pointsOf_4 (fun r => r = nI (pts (B.2 5) S (B.1 11))) (nI S) EI ER Eq En (nI (pts (B.2 5) S k)) (nI k)
  | 0, k, e => by
    have hn := hv.np
    refine kX1_pointsOf_4 ⟨fun _ => ?_, fun c => ?_⟩
    · have e : k = B.1 11 := by omega
      subst e
      rfl
    · rw [h1, nI_leI (by omega) (by omega)] at c
      omega
  | n + 1, k, e => by
    have hn := hv.np
    have ih := lX1_pointsOf h1 h0 hv hS n (k + 1) (by omega)
    rw [← nI_1, pts_succ] at ih
    refine kX1_pointsOf_4 ⟨fun c => ?_, fun _ => ⟨fun c => ?_, fun c => ⟨vp_in_nI (by omega) (by decide), fun x2 ex2 => ?_⟩⟩⟩
    · rw [h1, nI_leI (by omega) (by omega)] at c
      omega
    · rw [tb_0 hS (by omega)] at c
      rw [c, if_neg (by decide), Nat.add_zero] at ih
      exact ih
    · rw [tb_0 hS (by omega)] at c
      rw [if_pos (of_not_false c)] at ih
      rw [ex2, nI_clamp (by omega), h0 k (by omega), nI_add]
      exact ih
theorem sX1_pointsOf (h : RCc I R EI ER En V B lt) (hv : InvB B) {S : Nat} (hS : S < 2 ^ 31) : qX1_pointsOf (fun r => r = nI (pts (B.2 5) S (B.1 11))) (nI S) EI ER Eq En := lX1_pointsOf h.e1 (fun p hp => h.sz hp) hv hS _ 0 (Nat.zero_add _)
theorem pg_lt (hv : InvB B) {g : Nat} (hg : g < B.1 18) : B.2 17 g < 2 ^ 14 := Nat.lt_of_lt_of_le (hv.pg g hg) (Nat.pow_le_pow_right (by decide) hv.np)
end
def pageAt (a : Int32) (B : Bk) : Int32 := if isIn a (B.1 18) then nI (B.2 17 a.toNatClampNeg) else -1
def leftAt (a : Int32) (B : Bk) : Int32 := if isIn a (B.1 18) then 12 - nI (pts (B.2 5) (B.2 17 a.toNatClampNeg) (B.1 11)) else -1
theorem ag_page : Ag_page JJ := fun {k c s u v} a hk hj => query hj (fun P => qX3_page P a u.1 u.2.1 u.2.2.1 u.2.2.2.1 u.2.2.2.2.1 u.2.2.2.2.2.1 u.2.2.2.2.2.2.1 u.2.2.2.2.2.2.2.1 u.2.2.2.2.2.2.2.2.1 u.2.2.2.2.2.2.2.2.2.1 u.2.2.2.2.2.2.2.2.2.2) (fun P => qX4_page P a v.1 v.2) (pageAt a) (fun B lt hv hg hc => by
    have hn := hv.pm
    refine ⟨_, sX1_has hc hv a, fun rc hrc => ⟨fun e => ?_, fun e => ?_⟩⟩
    · rw [hrc, b2i_0] at e
      show (-1 : Int32) = pageAt a B
      unfold pageAt
      rw [e]; rfl
    · rw [hrc, b2i_n0] at e
      obtain ⟨g, hg9, rfl⟩ := isIn_get e
      refine ⟨vp_in_nI (by omega) (by decide), fun x ex => ?_⟩
      unfold pageAt
      rw [ex, e, if_pos rfl, nI_clamp (by omega)]
      exact RCc.pg hc hg9) (fun B hv hg hm => by
    have hn := hv.pm
    have h9 := hm.upI (j := 19) (by decide) 0
    unfold qX4_page
    rw [hm.i18]
    refine ⟨_, sX4_inN (by omega), fun rc hrc => ⟨fun e => ⟨?_, h9⟩, fun e => ?_⟩⟩
    · rw [hrc, b2i_0] at e
      unfold pageAt
      rw [e]; rfl
    · rw [hrc, b2i_n0] at e
      obtain ⟨g, hg9, rfl⟩ := isIn_get e
      refine ⟨vp_in_nI (by omega) (by decide), ?_, h9⟩
      unfold pageAt
      rw [e, if_pos rfl, nI_clamp (by omega)]
      exact hm.r17 g)
theorem ag_left : Ag_left JJ := fun {k c s u v} a hk hj => query hj (fun P => qX3_left P a u.1 u.2.1 u.2.2.1 u.2.2.2.1 u.2.2.2.2.1 u.2.2.2.2.2.1 u.2.2.2.2.2.2.1 u.2.2.2.2.2.2.2.1 u.2.2.2.2.2.2.2.2.1 u.2.2.2.2.2.2.2.2.2.1 u.2.2.2.2.2.2.2.2.2.2) (fun P => qX4_left P a v.1 v.2) (leftAt a) (fun B lt hv hg hc => by
    have hn := hv.pm
    refine ⟨_, sX1_has hc hv a, fun rc hrc => ⟨fun e => ?_, fun e => ?_⟩⟩
    · rw [hrc, b2i_0] at e
      show (-1 : Int32) = leftAt a B
      unfold leftAt
      rw [e]; rfl
    · rw [hrc, b2i_n0] at e
      obtain ⟨g, hg9, rfl⟩ := isIn_get e
      have hl := pg_lt hv hg9
      refine ⟨vp_in_nI (by omega) (by decide), fun x ex => ?_⟩
      rw [nI_clamp (by omega)] at ex
      have ex : x = nI (B.2 17 g) := ex.trans (RCc.pg hc hg9)
      subst ex
      refine ⟨_, sX1_pointsOf hc hv (by omega), fun r hr => ?_⟩
      unfold leftAt
      rw [hr, e, if_pos rfl, nI_clamp (by omega)]) (fun B hv hg hm => by
    have hn := hv.pm
    have h9 := hm.upI (j := 19) (by decide) 0
    unfold qX4_left
    rw [hm.i18]
    refine ⟨_, sX4_inN (by omega), fun rc hrc => ⟨fun e => ⟨?_, h9⟩, fun e => ?_⟩⟩
    · rw [hrc, b2i_0] at e
      unfold leftAt
      rw [e]; rfl
    · rw [hrc, b2i_n0] at e
      obtain ⟨g, hg9, rfl⟩ := isIn_get e
      have hl := pg_lt hv hg9
      rw [nI_clamp (by omega), hm.r17]
      refine ⟨vp_in_nI (by omega) (by decide), _, sX4_pointsOf h9 hv (by omega), fun r hr => ⟨?_, h9⟩⟩
      unfold leftAt
      rw [hr, e, if_pos rfl, nI_clamp (by omega)])
