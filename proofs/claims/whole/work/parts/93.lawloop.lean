theorem lw_six (k : Nat) : nI (6 * k) + 6 = nI (6 * (k + 1)) := (nI_add (6 * k) 6).trans (congrArg nI (by omega))
theorem lw_lim {i L : Nat} (hL : L ≤ 3072) (hi : i ≤ 3072 + 5) (h : ¬ Int32.ofNat L - 6 < nI i) : i + 6 ≤ L := by
  rcases Nat.lt_or_ge L (i + 6) with g | g
  · exfalso
    apply h
    rw [Int32.lt_iff_toInt_lt]
    have e1 : (Int32.ofNat L).toInt = L := Int32.toInt_ofNat_of_lt (by omega)
    have e2 : (nI i).toInt = i := Int32.toInt_ofNat_of_lt (by omega)
    have e3 : (Int32.ofNat L - 6).toInt = (L : Int) - 6 := by
      rw [Int32.toInt_sub, e1]
      show ((L : Int) - 6).bmod (2 ^ 32) = _
      exact Int.bmod_eq_of_le (by omega) (by omega)
    rw [e2, e3]
    omega
  · exact g
theorem lw_cases (z : Int32) (h1 : ¬ z.toInt < 0) (h2 : ¬ 22 < z.toInt) : z = 0 ∨ z = 1 ∨ z = 2 ∨ z = 3 ∨ z = 4 ∨ z = 5 ∨ z = 6 ∨ z = 7 ∨ z = 8 ∨ z = 9 ∨ z = 10 ∨ z = 11 ∨ z = 12 ∨ z = 13 ∨ z = 14 ∨ z = 15 ∨ z = 16 ∨ z = 17 ∨ z = 18 ∨ z = 19 ∨ z = 20 ∨ z = 21 ∨ z = 22 := by
  have e : ∀ w : Int32, z = w ↔ z.toInt = w.toInt := fun w => Int32.toInt_inj.symm
  simp only [e]
  show z.toInt = 0 ∨ z.toInt = 1 ∨ z.toInt = 2 ∨ z.toInt = 3 ∨ z.toInt = 4 ∨ z.toInt = 5 ∨ z.toInt = 6 ∨ z.toInt = 7 ∨ z.toInt = 8 ∨ z.toInt = 9 ∨ z.toInt = 10 ∨ z.toInt = 11 ∨ z.toInt = 12 ∨ z.toInt = 13 ∨ z.toInt = 14 ∨ z.toInt = 15 ∨ z.toInt = 16 ∨ z.toInt = 17 ∨ z.toInt = 18 ∨ z.toInt = 19 ∨ z.toInt = 20 ∨ z.toInt = 21 ∨ z.toInt = 22
  omega
set_option maxHeartbeats 4000000 in
set_option maxRecDepth 100000 in
/-- the law's loop -/
theorem law_loop {p : Program} {l : Launch} {e : Env} {s : State} {m : MethodId} {below : List Frame} {meth : Method} {c : Code} {b L : Nat} {xs : Nat → Int32} {dC : Nat → ClassId} {dI : Nat → Nat → Nat} {cI cJ cP : ClassId} {sa tL tM : Nat} {J : Nat → Nat → Nat → cS → mS → Prop} (hJ : Agree J) (X : LawC p l s m meth c b L xs dC dI cI cJ cP sa tL tM) {h hm ao : Nat} {ad ad0 ad1 adm : Nat → Nat} : ∀ (n k : Nat), k + n = 513 → ∀ (c0 s0 : Nat) (u : cS) (v : mS) (fo : Nat → Int64) (H : Heap) (locs : List Loc) (ls : Array Slot), 6 * k ≤ L + 5 → k ≤ 512 → J k c0 s0 u v → va_P (dC, dI) vwCl (wL cI cJ cP h ad ad0 ad1 hm adm ao u v fo) H → va_D (fun q : Nat => s.heap.size ≤ q) (wL cI cJ cP h ad ad0 ad1 hm adm ao u v fo) → va_S (fun q : Nat => s.heap.size ≤ q) s.heap H locs → lv_has ls 7 [(0, .ref b), (1, .ref h), (2, .ref hm), (3, .ref ao), (4, .int (nI (6 * k)))] → W p l e room_1 s m #[Value.ref b] below meth c H locs c0 s0 (lw_Z below #[Value.ref b] s) (F0 m 23 ls []) := by
  obtain ⟨hx, hb, hr, hml, hown, hts, hX, hbl, hlocks, hL, htr, hn, hK, hth, hst⟩ := id X
  have hbA : ¬ (fun q : Nat => s.heap.size ≤ q) b := Nat.not_le.mpr hbl
  intro n
  induction n with
  | zero =>
    intro k hk c0 s0 u v fo H locs ls h1 h2
    exact absurd h2 (by omega)
  | succ n ih =>
    intro k hkn c0 s0 u v fo H locs ls hkL hk512 hj hP hD hS hl
    obtain ⟨hr1, hr2⟩ := hJ.room hk512 hj
    refine lv_iload hx hb dL_law_23 (lv_at hl 4 rfl) ?_
    refine lv_aload_n hx hb dL_law_25 rfl (lv_at hl 0 rfl) ?_
    refine va_slen hx hb hX hbl hbA hS dL_law_26 ?_
    refine lv_bipush (v := (6 : Int32)) hx hb dL_law_27 (by decide) ?_
    refine lv_isub hx hb dL_law_29 ?_
    refine lv_icmp_gt (tgt := 808) hx hb dL_law_30 (by decide) (fun hc => ?_) (fun hc => ?_)
    · refine lv_iconst (v := (1 : Int32)) hx hb dL_law_808 (by decide) ?_
      refine va_forget (fun q hq => hS.2.2 q hq) ?_
      refine W.widen (k := 601024) (n := 7293033) (by omega) (by omega) ?_
      exact lw_ret hx hb hr hlocks dL_law_809
    · have hi : 6 * k + 6 ≤ L := lw_lim hL (by omega) hc
      have hk : k < 512 := by omega
      have kk : ∀ (c1 s1 : Nat) (u' : cS) (v' : mS) (fo : Nat → Int64) (H : Heap) (locs : List Loc) (ls : Array Slot), J (k + 1) c1 s1 u' v' → va_P (dC, dI) vwCl (wL cI cJ cP h ad ad0 ad1 hm adm ao u' v' fo) H → va_D (fun q : Nat => s.heap.size ≤ q) (wL cI cJ cP h ad ad0 ad1 hm adm ao u' v' fo) → va_S (fun q : Nat => s.heap.size ≤ q) s.heap H locs → lv_has ls 7 [(0, .ref b), (1, .ref h), (2, .ref hm), (3, .ref ao), (4, .int (nI (6 * k)))] → W p l e room_1 s m #[Value.ref b] below meth c H locs c1 s1 (lw_Z below #[Value.ref b] s) (F0 m 802 ls []) := by
        intro c1 s1 u' v' fo H locs ls hj hP hD hS hl
        refine lv_iinc (v := nI (6 * (k + 1))) (lv' := [(4, .int (nI (6 * (k + 1)))), (0, .ref b), (1, .ref h), (2, .ref hm), (3, .ref ao)]) hx hb dL_law_802 hl (k := 4) rfl (lw_six k) (by decide) rfl (fun ls hl => ?_)
        refine lv_goto (tgt := 23) hx hb dL_law_805 (by decide) ?_
        exact ih (k + 1) (by omega) c1 s1 u' v' fo H locs ls (by omega) (by omega) hj hP hD hS (lv_sub hl [1, 2, 3, 4, 0] rfl)
      refine lv_aload_n hx hb dL_law_33 rfl (lv_at hl 0 rfl) ?_
      refine lv_iload hx hb dL_law_34 (lv_at hl 4 rfl) ?_
      refine va_sld hx hb hX hbl hbA hS (vp_in_nI (by omega) (by omega)) dL_law_36 ?_
      refine lv_bipush (v := (31 : Int32)) hx hb dL_law_37 (by decide) ?_
      refine lv_iand hx hb dL_law_39 ?_
      refine lv_topi (fun z ez => ?_)
      by_cases ho : z.toInt < 0 ∨ 22 < z.toInt
      · refine lv_tableOut (tgt := 802) hx hb dL_law_40 ho (by decide) ?_
        exact kk _ _ _ _ _ _ _ _ (hJ.skip hj) hP hD hS hl
      · obtain ⟨h1, h2⟩ := not_or.mp ho
        have hz : z = 0 ∨ z = 1 ∨ z = 2 ∨ z = 3 ∨ z = 4 ∨ z = 5 ∨ z = 6 ∨ z = 7 ∨ z = 8 ∨ z = 9 ∨ z = 10 ∨ z = 11 ∨ z = 12 ∨ z = 13 ∨ z = 14 ∨ z = 15 ∨ z = 16 ∨ z = 17 ∨ z = 18 ∨ z = 19 ∨ z = 20 ∨ z = 21 ∨ z = 22 := lw_cases z h1 h2
        rcases hz with rfl | rfl | rfl | rfl | rfl | rfl | rfl | rfl | rfl | rfl | rfl | rfl | rfl | rfl | rfl | rfl | rfl | rfl | rfl | rfl | rfl | rfl | rfl
        · refine lv_tableIn (off := 108) (tgt := 148) hx hb dL_law_40 (by decide) (by decide) (by decide) (by decide) ?_
          exact lc_child hJ X hi hk hj hP hD hS hl kk
        · refine lv_tableIn (off := 133) (tgt := 173) hx hb dL_law_40 (by decide) (by decide) (by decide) (by decide) ?_
          exact lc_consent hJ X hi hk hj hP hD hS hl kk
        · refine lv_tableIn (off := 170) (tgt := 210) hx hb dL_law_40 (by decide) (by decide) (by decide) (by decide) ?_
          exact lc_picture hJ X hi hk hj hP hD hS hl kk
        · refine lv_tableIn (off := 219) (tgt := 259) hx hb dL_law_40 (by decide) (by decide) (by decide) (by decide) ?_
          exact lc_face hJ X hi hk hj hP hD hS hl kk
        · refine lv_tableIn (off := 292) (tgt := 332) hx hb dL_law_40 (by decide) (by decide) (by decide) (by decide) ?_
          exact lc_set hJ X hi hk hj hP hD hS hl kk
        · refine lv_tableIn (off := 329) (tgt := 369) hx hb dL_law_40 (by decide) (by decide) (by decide) (by decide) ?_
          exact lc_count hJ X hi hk hj hP hD hS hl kk
        · refine lv_tableIn (off := 354) (tgt := 394) hx hb dL_law_40 (by decide) (by decide) (by decide) (by decide) ?_
          exact lc_told hJ X hi hk hj hP hD hS hl kk
        · refine lv_tableIn (off := 422) (tgt := 462) hx hb dL_law_40 (by decide) (by decide) (by decide) (by decide) ?_
          exact lc_name hJ X hi hk hj hP hD hS hl kk
        · refine lv_tableIn (off := 459) (tgt := 499) hx hb dL_law_40 (by decide) (by decide) (by decide) (by decide) ?_
          exact lc_seen hJ X hi hk hj hP hD hS hl kk
        · refine lv_tableIn (off := 484) (tgt := 524) hx hb dL_law_40 (by decide) (by decide) (by decide) (by decide) ?_
          exact lc_proof hJ X hi hk hj hP hD hS hl kk
        · refine lv_tableIn (off := 521) (tgt := 561) hx hb dL_law_40 (by decide) (by decide) (by decide) (by decide) ?_
          exact lc_shows hJ X hi hk hj hP hD hS hl kk
        · refine lv_tableIn (off := 546) (tgt := 586) hx hb dL_law_40 (by decide) (by decide) (by decide) (by decide) ?_
          exact lc_choose hJ X hi hk hj hP hD hS hl kk
        · refine lv_tableIn (off := 571) (tgt := 611) hx hb dL_law_40 (by decide) (by decide) (by decide) (by decide) ?_
          exact lc_wrong hJ X hi hk hj hP hD hS hl kk
        · refine lv_tableIn (off := 584) (tgt := 624) hx hb dL_law_40 (by decide) (by decide) (by decide) (by decide) ?_
          exact lc_best hJ X hi hk hj hP hD hS hl kk
        · refine lv_tableIn (off := 597) (tgt := 637) hx hb dL_law_40 (by decide) (by decide) (by decide) (by decide) ?_
          exact lc_mend hJ X hi hk hj hP hD hS hl kk
        · refine lv_tableIn (off := 610) (tgt := 650) hx hb dL_law_40 (by decide) (by decide) (by decide) (by decide) ?_
          exact lc_choices hJ X hi hk hj hP hD hS hl kk
        · refine lv_tableIn (off := 623) (tgt := 663) hx hb dL_law_40 (by decide) (by decide) (by decide) (by decide) ?_
          exact lc_lacking hJ X hi hk hj hP hD hS hl kk
        · refine lv_tableIn (off := 636) (tgt := 676) hx hb dL_law_40 (by decide) (by decide) (by decide) (by decide) ?_
          exact lc_fewest hJ X hi hk hj hP hD hS hl kk
        · refine lv_tableIn (off := 649) (tgt := 689) hx hb dL_law_40 (by decide) (by decide) (by decide) (by decide) ?_
          exact lc_lay hJ X hi hk hj hP hD hS hl kk
        · refine lv_tableIn (off := 662) (tgt := 702) hx hb dL_law_40 (by decide) (by decide) (by decide) (by decide) ?_
          exact lc_page hJ X hi hk hj hP hD hS hl kk
        · refine lv_tableIn (off := 687) (tgt := 727) hx hb dL_law_40 (by decide) (by decide) (by decide) (by decide) ?_
          exact lc_left hJ X hi hk hj hP hD hS hl kk
        · refine lv_tableIn (off := 712) (tgt := 752) hx hb dL_law_40 (by decide) (by decide) (by decide) (by decide) ?_
          exact lc_late hJ X hi hk hj hP hD hS hl kk
        · refine lv_tableIn (off := 737) (tgt := 777) hx hb dL_law_40 (by decide) (by decide) (by decide) (by decide) ?_
          exact lc_drop hJ X hi hk hj hP hD hS hl kk
