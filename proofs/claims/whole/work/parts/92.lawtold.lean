theorem pL (a b c : va_W) : (a ++ (b ++ c)).Perm ([] ++ ((a ++ c) ++ b)) := by
  show (a ++ (b ++ c)).Perm ((a ++ c) ++ b)
  rw [List.append_assoc]
  exact List.Perm.append_left a List.perm_append_comm
theorem get_last2 {α : Type} (w x : List α) (a : α) : (w ++ (x ++ [a]))[w.length + x.length]? = some a := by simp
theorem lcmp_self (fo : Nat → Int64) (v : Int64) : lg_cmp (vp_updL fo 0 v (0 : Int32).toNatClampNeg) v = 0 := by
  have e : vp_updL fo 0 v (0 : Int32).toNatClampNeg = v := by simp [vp_updL]
  rw [e]; simp [lg_cmp]
set_option maxHeartbeats 4000000 in
set_option maxRecDepth 100000 in
theorem lc_told {p : Program} {l : Launch} {e : Env} {s : State} {m : MethodId} {below : List Frame} {meth : Method} {c : Code} {b L : Nat} {xs : Nat → Int32} {dC : Nat → ClassId} {dI : Nat → Nat → Nat} {cI cJ cP : ClassId} {sa tL tM : Nat} {J : Nat → Nat → Nat → cS → mS → Prop} (hJ : Agree J) (X : LawC p l s m meth c b L xs dC dI cI cJ cP sa tL tM) {h hm ao : Nat} {ad ad0 ad1 adm : Nat → Nat} {i k c0 s0 : Nat} {u : cS} {v : mS} {fo : Nat → Int64} {H : Heap} {locs : List Loc} {ls : Array Slot} (hi : i + 6 ≤ L) (hk : k < 512) (hj : J k c0 s0 u v) (hP : va_P (dC, dI) vwCl (wL cI cJ cP h ad ad0 ad1 hm adm ao u v fo) H) (hD : va_D (fun q : Nat => s.heap.size ≤ q) (wL cI cJ cP h ad ad0 ad1 hm adm ao u v fo)) (hS : va_S (fun q : Nat => s.heap.size ≤ q) s.heap H locs) (hl : lv_has ls 7 [(0, .ref b), (1, .ref h), (2, .ref hm), (3, .ref ao), (4, .int (nI i))]) (kk : ∀ (c1 s1 : Nat) (u' : cS) (v' : mS) (fo : Nat → Int64) (H : Heap) (locs : List Loc) (ls : Array Slot), J (k + 1) c1 s1 u' v' → va_P (dC, dI) vwCl (wL cI cJ cP h ad ad0 ad1 hm adm ao u' v' fo) H → va_D (fun q : Nat => s.heap.size ≤ q) (wL cI cJ cP h ad ad0 ad1 hm adm ao u' v' fo) → va_S (fun q : Nat => s.heap.size ≤ q) s.heap H locs → lv_has ls 7 [(0, .ref b), (1, .ref h), (2, .ref hm), (3, .ref ao), (4, .int (nI i))] → W p l e room_1 s m #[Value.ref b] below meth c H locs c1 s1 (lw_Z below #[Value.ref b] s) (F0 m 802 ls [])) : W p l e room_1 s m #[Value.ref b] below meth c H locs c0 s0 (lw_Z below #[Value.ref b] s) (F0 m 394 ls []) := by
  obtain ⟨hx, hb, hr, hml, hown, hts, hX, hbl, hlocks, hL, htr, hn, hK, hth, hst⟩ := X
  have hA : ∀ q : Nat, s.heap.size ≤ q → (fun q : Nat => s.heap.size ≤ q) q := fun _ h => h
  have hbA : ¬ (fun q : Nat => s.heap.size ≤ q) b := Nat.not_le.mpr hbl
  obtain ⟨hr1, hr2⟩ := hJ.room (Nat.le_of_lt hk) hj
  obtain ⟨I, R, CI, CJ, CR, CG, EI, ER, Eq, En, V⟩ := u
  obtain ⟨I4, R4⟩ := v
  obtain ⟨Q3, QX, hq, hqr, hqx⟩ := hJ.told (xs (nI i + 1).toNatClampNeg) (xs (nI i + 2).toNatClampNeg) hk hj
  refine lv_aload_n hx hb dL_law_394 rfl (lv_at hl 1 rfl) ?_
  refine lv_aload_n hx hb dL_law_395 rfl (lv_at hl 0 rfl) ?_
  refine lv_iload hx hb dL_law_396 (lv_at hl 4 rfl) ?_
  refine lv_iconst (v := (1 : Int32)) hx hb dL_law_398 (by decide) ?_
  refine lv_iadd hx hb dL_law_399 ?_
  refine va_sld hx hb hX hbl hbA hS (li1 hi hL) dL_law_400 ?_
  refine lv_aload_n hx hb dL_law_401 rfl (lv_at hl 0 rfl) ?_
  refine lv_iload hx hb dL_law_402 (lv_at hl 4 rfl) ?_
  refine lv_iconst (v := (2 : Int32)) hx hb dL_law_404 (by decide) ?_
  refine lv_iadd hx hb dL_law_405 ?_
  refine va_sld hx hb hX hbl hbA hS (li2 hi hL) dL_law_406 ?_
  refine lv_aload_n hx hb dL_law_407 rfl (lv_at hl 3 rfl) ?_
  have hP2 := vP_perm (pL (wd3 cI cJ cP h ad ad0 ad1 I R CI CJ CR CG EI ER Eq En V) (wd4 cI hm adm I4 R4) [(ao, .inl (cJ, 1, .inr (.inl fo)))]) hP
  have hD2 := vD_perm (pL (wd3 cI cJ cP h ad ad0 ad1 I R CI CJ CR CG EI ER Eq En V) (wd4 cI hm adm I4 R4) [(ao, .inl (cJ, 1, .inr (.inl fo)))]) hD
  refine x_calli (w1 := []) (ws := wd3 cI cJ cP h ad ad0 ad1 I R CI CJ CR CG EI ER Eq En V ++ [(ao, .inl (cJ, 1, .inr (.inl fo)))]) (w2 := wd4 cI hm adm I4 R4) (wf := fun u : Nat → Int64 => wd3 cI cJ cP h ad ad0 ad1 I R CI CJ CR CG EI ER Eq En V ++ [(ao, .inl (cJ, 1, .inr (.inl u)))]) (vx_runSW (rm := ({ frames := 7, cells := 1, slots := 6, locals := 130 } : Room)) (mc := 1) (ms := 6) (As := [.ref h, .int (xs (nI i + 1).toNatClampNeg), .int (xs (nI i + 2).toNatClampNeg), .ref ao]) (rest := []) ⟨hx, hb, hml, hown, hts⟩ (tL_told l htr dC dI cI cJ cP h ad ad0 ad1 ao fo sa _ Q3 QX (xs (nI i + 1).toNatClampNeg) (xs (nI i + 2).toNatClampNeg) I R CI CJ CR CG EI ER Eq En V hq) (vx_cwSW 4 hts gL_law_L_told rfl rfl rfl (by decide +kernel) ⟨Nat.le_of_ble_eq_true rfl, Nat.le_of_ble_eq_true rfl⟩) (wPreST hn hth hS hA hK (vP_l (vP_r (a := ([] : va_W)) hP2)) (vD_l (vD_r (a := ([] : va_W)) hD2))) rfl rfl hl.1 rfl (lv_room (Nat.le_of_ble_eq_true rfl)) dL_law_408 ⟨by show c0 + 1 ≤ 601024; omega, by show s0 + 6 ≤ 7293033; omega⟩) hP2 hD2 hS hA (fun r fo2 H locs hp hP hD hS => ?_)
  have hP := vP_perm (pL (wd3 cI cJ cP h ad ad0 ad1 I R CI CJ CR CG EI ER Eq En V) (wd4 cI hm adm I4 R4) [(ao, .inl (cJ, 1, .inr (.inl fo2)))]).symm hP
  have hD := vD_perm (pL (wd3 cI cJ cP h ad ad0 ad1 I R CI CJ CR CG EI ER Eq En V) (wd4 cI hm adm I4 R4) [(ao, .inl (cJ, 1, .inr (.inl fo2)))]).symm hD
  refine lv_istore (lv' := [(5, .int r), (0, .ref b), (1, .ref h), (2, .ref hm), (3, .ref ao), (4, .int (nI i))]) hx hb dL_law_411 hl (by decide) rfl (fun ls hl => ?_)
  rcases hp with ⟨rfl, rv, hv, rfl⟩ | ⟨rfl, hv, -⟩
  · obtain ⟨Q4, hq4, hqr4⟩ := hqr rv hv
    refine lv_aload_n hx hb dL_law_413 rfl (lv_at hl 3 rfl) ?_
    refine lv_aload_n hx hb dL_law_414 rfl (lv_at hl 1 rfl) ?_
    refine lv_iload hx hb dL_law_415 (lv_at hl 5 rfl) ?_
    refine lv_iconst (v := (1 : Int32)) hx hb dL_law_417 (by decide) ?_
    refine lv_iadd hx hb dL_law_418 ?_
    refine va_sld hx hb hX hbl hbA hS (li1 hi hL) dL_law_419 ?_
    refine lv_aload_n hx hb dL_law_420 rfl (lv_at hl 1 rfl) ?_
    refine lv_iload hx hb dL_law_421 (lv_at hl 5 rfl) ?_
    refine lv_iconst (v := (2 : Int32)) hx hb dL_law_423 (by decide) ?_
    refine lv_iadd hx hb dL_law_424 ?_
    refine va_sld hx hb hX hbl hbA hS (li2 hi hL) dL_law_425 ?_
    refine x_calli (w1 := wd3 cI cJ cP h ad ad0 ad1 I R CI CJ CR CG EI ER Eq En V) (w2 := [(ao, .inl (cJ, 1, .inr (.inl _)))]) (wf := fun u : (Nat → Int32) × (Nat → Nat → Int32) => wd4 cI hm adm u.1 u.2) (va_runV (As := [.int (xs (nI i + 1).toNatClampNeg), .int (xs (nI i + 2).toNatClampNeg)]) (rest := []) ⟨hx, hb, hml, hown, hts⟩ (tX4_told l dC dI cI hm adm _ Q4 (xs (nI i + 1).toNatClampNeg) (xs (nI i + 2).toNatClampNeg) I4 R4 hq4) (cwV 2 hts gL_law_X4_told rfl rfl rfl (by decide +kernel) ⟨Nat.le_of_ble_eq_true rfl, Nat.le_of_ble_eq_true rfl⟩) (wPreV (hK.sub [0] rfl) (vP_l (vP_r hP)) (vD_l (vD_r hD)) (ci := 4) (q0 := 0) rfl rfl) rfl rfl hl.1 rfl (lv_room (Nat.le_of_ble_eq_true rfl)) dL_law_426 ⟨by show c0 + 1 + 0 ≤ 601024; omega, by show s0 + 6 + 0 ≤ 7293033; omega⟩) hP hD hS hA (fun r4 u4 H locs hp4 hP hD hS => ?_)
    obtain ⟨I4, R4⟩ := u4
    obtain ⟨Q5, hq5, hqr5⟩ := hqr4 r4 (I4, R4) hp4
    refine lv_istore (lv' := [(6, .int r4), (5, .int 0), (0, .ref b), (1, .ref h), (2, .ref hm), (3, .ref ao), (4, .int (nI i))]) hx hb dL_law_429 hl (by decide) rfl (fun ls hl => ?_)
    refine lv_aload_n hx hb dL_law_431 rfl (lv_at hl 4 rfl) ?_
    refine x_calli (w1 := wd3 cI cJ cP h ad ad0 ad1 I R CI CJ CR CG EI ER Eq En V) (w2 := [(ao, .inl (cJ, 1, .inr (.inl _)))]) (wf := fun _ : Unit => wd4 cI hm adm I4 R4) (va_runV (As := []) (rest := []) ⟨hx, hb, hml, hown, hts⟩ (tX4_thrown l dC dI cI hm adm _ Q5 I4 R4 hq5) (cwV 0 hts gL_law_X4_thrown rfl rfl rfl (by decide +kernel) ⟨Nat.le_of_ble_eq_true rfl, Nat.le_of_ble_eq_true rfl⟩) (wPreV (hK.sub [0] rfl) (vP_l (vP_r hP)) (vD_l (vD_r hD)) (ci := 4) (q0 := 0) rfl rfl) rfl rfl hl.1 rfl (lv_room (Nat.le_of_ble_eq_true rfl)) dL_law_432 ⟨by show c0 + 1 + 0 + 0 ≤ 601024; omega, by show s0 + 6 + 0 + 0 ≤ 7293033; omega⟩) hP hD hS hA (fun t5 u5 H locs hp5 hP hD hS => ?_)
    obtain ⟨rfl, rfl, hj⟩ := hqr5 t5 hp5
    refine lv_iload hx hb dL_law_435 (lv_at hl 1 rfl) ?_
    refine lv_icmp_eq (tgt := 442) hx hb dL_law_437 (by decide) (fun _ => ?_) (fun hne => absurd rfl hne)
    refine lv_iload hx hb dL_law_442 (lv_at hl 1 rfl) ?_
    refine lv_if_ne (tgt := 459) hx hb dL_law_444 (by decide) (fun hne => absurd rfl hne) (fun _ => ?_)
    refine lv_aload_n hx hb dL_law_447 rfl (lv_at hl 5 rfl) ?_
    refine lv_iconst (v := (0 : Int32)) hx hb dL_law_448 (by decide) ?_
    refine va_lald hx hb hK hP ((wd3 cI cJ cP h ad ad0 ad1 I R CI CJ CR CG EI ER Eq En V).length + (wd4 cI hm adm I4 R4).length) 1 (get_last2 _ _ _) rfl (by unfold vp_in; decide) dL_law_449 ?_
    refine lv_iload hx hb dL_law_450 (lv_at hl 0 rfl) ?_
    refine lv_i2l hx hb dL_law_452 rfl ?_
    refine W.lcmp hx hb dL_law_453 ?_
    refine lv_if_eq (tgt := 459) hx hb dL_law_454 (by decide) (fun _ => ?_) (fun hne => absurd (lcmp_self _ _) hne)
    refine lv_goto (tgt := 802) hx hb dL_law_459 (by decide) ?_
    exact kk _ _ (I, R, CI, CJ, CR, CG, EI, ER, Eq, En, V) (I4, R4) _ _ _ _ hj hP hD hS (lv_sub hl [2, 3, 4, 5, 6] rfl)
  · obtain ⟨Q4, hq4, hqr4⟩ := hqx hv
    refine lv_aload_n hx hb dL_law_413 rfl (lv_at hl 3 rfl) ?_
    refine lv_aload_n hx hb dL_law_414 rfl (lv_at hl 1 rfl) ?_
    refine lv_iload hx hb dL_law_415 (lv_at hl 5 rfl) ?_
    refine lv_iconst (v := (1 : Int32)) hx hb dL_law_417 (by decide) ?_
    refine lv_iadd hx hb dL_law_418 ?_
    refine va_sld hx hb hX hbl hbA hS (li1 hi hL) dL_law_419 ?_
    refine lv_aload_n hx hb dL_law_420 rfl (lv_at hl 1 rfl) ?_
    refine lv_iload hx hb dL_law_421 (lv_at hl 5 rfl) ?_
    refine lv_iconst (v := (2 : Int32)) hx hb dL_law_423 (by decide) ?_
    refine lv_iadd hx hb dL_law_424 ?_
    refine va_sld hx hb hX hbl hbA hS (li2 hi hL) dL_law_425 ?_
    refine x_calli (w1 := wd3 cI cJ cP h ad ad0 ad1 I R CI CJ CR CG EI ER Eq En V) (w2 := [(ao, .inl (cJ, 1, .inr (.inl _)))]) (wf := fun u : (Nat → Int32) × (Nat → Nat → Int32) => wd4 cI hm adm u.1 u.2) (va_runV (As := [.int (xs (nI i + 1).toNatClampNeg), .int (xs (nI i + 2).toNatClampNeg)]) (rest := []) ⟨hx, hb, hml, hown, hts⟩ (tX4_told l dC dI cI hm adm _ Q4 (xs (nI i + 1).toNatClampNeg) (xs (nI i + 2).toNatClampNeg) I4 R4 hq4) (cwV 2 hts gL_law_X4_told rfl rfl rfl (by decide +kernel) ⟨Nat.le_of_ble_eq_true rfl, Nat.le_of_ble_eq_true rfl⟩) (wPreV (hK.sub [0] rfl) (vP_l (vP_r hP)) (vD_l (vD_r hD)) (ci := 4) (q0 := 0) rfl rfl) rfl rfl hl.1 rfl (lv_room (Nat.le_of_ble_eq_true rfl)) dL_law_426 ⟨by show c0 + 1 + 0 ≤ 601024; omega, by show s0 + 6 + 0 ≤ 7293033; omega⟩) hP hD hS hA (fun r4 u4 H locs hp4 hP hD hS => ?_)
    obtain ⟨I4, R4⟩ := u4
    obtain ⟨Q5, hq5, hqr5⟩ := hqr4 r4 (I4, R4) hp4
    refine lv_istore (lv' := [(6, .int r4), (5, .int 1), (0, .ref b), (1, .ref h), (2, .ref hm), (3, .ref ao), (4, .int (nI i))]) hx hb dL_law_429 hl (by decide) rfl (fun ls hl => ?_)
    refine lv_aload_n hx hb dL_law_431 rfl (lv_at hl 4 rfl) ?_
    refine x_calli (w1 := wd3 cI cJ cP h ad ad0 ad1 I R CI CJ CR CG EI ER Eq En V) (w2 := [(ao, .inl (cJ, 1, .inr (.inl _)))]) (wf := fun _ : Unit => wd4 cI hm adm I4 R4) (va_runV (As := []) (rest := []) ⟨hx, hb, hml, hown, hts⟩ (tX4_thrown l dC dI cI hm adm _ Q5 I4 R4 hq5) (cwV 0 hts gL_law_X4_thrown rfl rfl rfl (by decide +kernel) ⟨Nat.le_of_ble_eq_true rfl, Nat.le_of_ble_eq_true rfl⟩) (wPreV (hK.sub [0] rfl) (vP_l (vP_r hP)) (vD_l (vD_r hD)) (ci := 4) (q0 := 0) rfl rfl) rfl rfl hl.1 rfl (lv_room (Nat.le_of_ble_eq_true rfl)) dL_law_432 ⟨by show c0 + 1 + 0 + 0 ≤ 601024; omega, by show s0 + 6 + 0 + 0 ≤ 7293033; omega⟩) hP hD hS hA (fun t5 u5 H locs hp5 hP hD hS => ?_)
    obtain ⟨rfl, hj⟩ := hqr5 t5 hp5
    refine lv_iload hx hb dL_law_435 (lv_at hl 1 rfl) ?_
    refine lv_icmp_eq (tgt := 442) hx hb dL_law_437 (by decide) (fun _ => ?_) (fun hne => absurd rfl hne)
    refine lv_iload hx hb dL_law_442 (lv_at hl 1 rfl) ?_
    refine lv_if_ne (tgt := 459) hx hb dL_law_444 (by decide) (fun _ => ?_) (fun he => absurd he (by decide))
    refine lv_goto (tgt := 802) hx hb dL_law_459 (by decide) ?_
    exact kk _ _ (I, R, CI, CJ, CR, CG, EI, ER, Eq, En, V) (I4, R4) _ _ _ _ hj hP hD hS (lv_sub hl [2, 3, 4, 5, 6] rfl)
