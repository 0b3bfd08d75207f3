def qX3_picture (mc : Nat) (ms : Nat) (post : Int32 → (Nat → Int32) → (Nat → Nat → Int32) → (Nat → Int32) → (Nat → Int64) → (Nat → Nat → Int32) → (Nat → Nat → Int64) → (Nat → Int32) → (Nat → Nat → Int32) → Nat → Nat → vS → Prop) (p1 : Int32) (p2 : Int32) (p3 : Int32) (I : Nat → Int32) (R : Nat → Nat → Int32) (CI : Nat → Int32) (CJ : Nat → Int64) (CR : Nat → Nat → Int32) (CG : Nat → Nat → Int64) (EI : Nat → Int32) (ER : Nat → Nat → Int32) (Eq : Nat) (En : Nat) (V : vS) : Prop := ∃ Pc_1 : Int32 → Prop, qX3_within Pc_1 p1 (0 : Int32) (2 : Int32) ∧ (∀ (rc_1 : Int32), Pc_1 rc_1 → (((rc_1 = 0) → (post (-1 : Int32) I R CI CJ CR CG EI ER Eq En V)) ∧ ((¬ rc_1 = 0) → (∃ Pc_2 : Int32 → Prop, qX3_within Pc_2 p2 (0 : Int32) (100 : Int32) ∧ (∀ (rc_2 : Int32), Pc_2 rc_2 → (((rc_2 = 0) → (post (-1 : Int32) I R CI CJ CR CG EI ER Eq En V)) ∧ ((¬ rc_2 = 0) → (∃ Pc_3 : Int32 → Prop, qX3_within Pc_3 p3 (1 : Int32) (12 : Int32) ∧ (∀ (rc_3 : Int32), Pc_3 rc_3 → (((rc_3 = 0) → (post (-1 : Int32) I R CI CJ CR CG EI ER Eq En V)) ∧ ((¬ rc_3 = 0) → ((((I 4) < (14 : Int32)) → (I 4 = nI (pvN V) ∧ pvN V < 14 ∧ (0 + 6 ≤ mc ∧ 0 + 47 ≤ ms) ∧ (∀ (aq_4 : Nat) (uq_4 : Nat → Nat), ∃ Pc_5 : (Nat → Int32) → (Nat → Nat → Int32) → Nat → Nat → Prop, qX1_hearOf Pc_5 p3 EI ER Eq En ∧ (∀ (EIc_5 : Nat → Int32) (ERc_5 : Nat → Nat → Int32) (Eqc_5 : Nat) (Enc_5 : Nat), Pc_5 EIc_5 ERc_5 Eqc_5 Enc_5 → (post (I 4) (va_up I 4 ((I 4) + (1 : Int32))) R CI CJ CR CG EIc_5 ERc_5 Eqc_5 Enc_5 (pvNew V aq_4 uq_4 p1 p2 p3)))))) ∧ ((¬ (I 4) < (14 : Int32)) → (post (-1 : Int32) I R CI CJ CR CG EI ER Eq En V))))))))))))))
theorem mX3_picture_f51 : Cond.fieldLink RX3 51 "YearBook" "pictureCount" "I" ∈ wsX3_picture := by decide +kernel
theorem nX3_picture_X3 : ∀ w ∈ u_ws RX3 TX3 9, w ∈ wsX3_picture := by decide +kernel
theorem mX3_picture_f18 : Cond.fieldLink RX3 18 "YearBook" "pictures" "[LYearBook$Picture;" ∈ wsX3_picture := by decide +kernel
theorem nX3_picture_X2 : ∀ w ∈ u_ws RX2 TX2 11, w ∈ wsX3_picture := by decide +kernel
theorem mX3_picture_cl16 : Cond.classLink RX3 16 RX2 ∈ wsX3_picture := by decide +kernel
theorem mX3_picture_inX2 : Cond.instantiable RX2 11 ∈ wsX3_picture := by decide +kernel
theorem mX3_picture_iiX2 : Cond.initialized RX2 ∈ wsX3_picture := by decide +kernel
theorem mX3_picture_m62 : Cond.methodLink RX3 62 yX2_init ∈ wsX3_picture := by decide +kernel
theorem mX3_picture_imX2 : Cond.instanceMethod yX2_init ∈ wsX3_picture := by decide +kernel
theorem mX3_picture_f35 : Cond.fieldLink RX3 35 "YearBook" "pages" "LYearBook$Pages;" ∈ wsX3_picture := by decide +kernel
set_option maxHeartbeats 4000000 in
set_option maxRecDepth 100000 in
theorem tX3_picture (l : Launch) (dC : Nat → ClassId) (dI : Nat → Nat → Nat) (cI : ClassId) (cJ : ClassId) (cP : ClassId) (h : Nat) (ad ad0 ad1 : Nat → Nat)  (sz : Nat) (mc : Nat) (ms : Nat) (post : Int32 → (Nat → Int32) → (Nat → Nat → Int32) → (Nat → Int32) → (Nat → Int64) → (Nat → Nat → Int32) → (Nat → Nat → Int64) → (Nat → Int32) → (Nat → Nat → Int32) → Nat → Nat → vS → Prop) (p1 : Int32) (p2 : Int32) (p3 : Int32) (I : Nat → Int32) (R : Nat → Nat → Int32) (CI : Nat → Int32) (CJ : Nat → Int64) (CR : Nat → Nat → Int32) (CG : Nat → Nat → Int64) (EI : Nat → Int32) (ER : Nat → Nat → Int32) (Eq : Nat) (En : Nat) (V : vS) (hq : qX3_picture mc ms post p1 p2 p3 I R CI CJ CR CG EI ER Eq En V) : Met l yX3_picture wsX3_picture ({ frames := 2, cells := mc, slots := ms, locals := 63 } : Room) (va_Pc [.ref h, .int p1, .int p2, .int p3] (wPreN (dC, dI) vwCl [(cI, .int), (cJ, .long), (cP, .object "YearBook$Picture")] (wd3 cI cJ cP h ad ad0 ad1 I R CI CJ CR CG EI ER Eq En V) sz)) (va_Qi (fun r (u : (Nat → Int32) × (Nat → Nat → Int32) × (Nat → Int32) × (Nat → Int64) × (Nat → Nat → Int32) × (Nat → Nat → Int64) × (Nat → Int32) × (Nat → Nat → Int32) × (Nat) × (Nat) × (vS)) => post r u.1 u.2.1 u.2.2.1 u.2.2.2.1 u.2.2.2.2.1 u.2.2.2.2.2.1 u.2.2.2.2.2.2.1 u.2.2.2.2.2.2.2.1 u.2.2.2.2.2.2.2.2.1 u.2.2.2.2.2.2.2.2.2.1 u.2.2.2.2.2.2.2.2.2.2) (wAt (dC, dI) vwCl [(cI, .int), (cJ, .long), (cP, .object "YearBook$Picture")] (va_A (wd3 cI cJ cP h ad ad0 ad1 I R CI CJ CR CG EI ER Eq En V) sz) (fun u : (Nat → Int32) × (Nat → Nat → Int32) × (Nat → Int32) × (Nat → Int64) × (Nat → Nat → Int32) × (Nat → Nat → Int64) × (Nat → Int32) × (Nat → Nat → Int32) × (Nat) × (Nat) × (vS) => wd3 cI cJ cP h ad ad0 ad1 u.1 u.2.1 u.2.2.1 u.2.2.2.1 u.2.2.2.2.1 u.2.2.2.2.2.1 u.2.2.2.2.2.2.1 u.2.2.2.2.2.2.2.1 u.2.2.2.2.2.2.2.2.1 u.2.2.2.2.2.2.2.2.2.1 u.2.2.2.2.2.2.2.2.2.2)) (va_A (wd3 cI cJ cP h ad ad0 ad1 I R CI CJ CR CG EI ER Eq En V) sz)) mc ms (va_A (wd3 cI cJ cP h ad ad0 ad1 I R CI CJ CR CG EI ER Eq En V) sz) := by
  unfold qX3_picture at hq
  refine Met.ofW (cc := cX3_picture) (maxL := 4) (ret := (some .int)) (by decide) rfl ?_
  intro p e s m args below meth c s₁ B hml hv
  obtain ⟨rfl, ⟨hsz, hP, hK, hD0⟩, hn⟩ := hv
  have hx := B.exec
  have hb := B.bytes
  have hr := B.returns
  have hts := atoms_spec (ws := wsX3_picture) B.pre
  have hown : s.vm.findClass RX3 = some m.cls := findClass_of_methodNamed B.named
  have hlocks := B.notSynchronized
  subst hsz
  have hD := hD0.self (sz := s.heap.size)
  generalize hAe : va_A (wd3 cI cJ cP h ad ad0 ad1 I R CI CJ CR CG EI ER Eq En V) s.heap.size = A at hD ⊢
  have hA : ∀ q : Nat, s.heap.size ≤ q → A q := fun q h => by rw [← hAe]; exact Or.inr h
  have hS : va_S A s.heap s.heap [] := va_S.rf
  have hl := lv_entry ([.ref h, .int p1, .int p2, .int p3]) (n := 4) (Nat.le_of_ble_eq_true rfl)
  rw [lg_entry_eq]
  generalize (lg_sl ([.ref h, .int p1, .int p2, .int p3]) ++ List.replicate (4 - (lg_sl ([.ref h, .int p1, .int p2, .int p3])).length) Slot.unset).toArray = ls at hl ⊢
  have hl : lv_has ls 4 [(0, .ref h), (1, .int p1), (2, .int p2), (3, .int p3)] := hl
  have hcm : 0 ≤ mc := Nat.zero_le _
  have hsm : 0 ≤ ms := Nat.zero_le _
  refine lv_iload_n hx hb dX3_picture_0 rfl (lv_at hl 1 rfl) ?_
  refine lv_iconst (v := (0 : Int32)) hx hb dX3_picture_1 (by decide) ?_
  refine lv_iconst (v := (2 : Int32)) hx hb dX3_picture_2 (by decide) ?_
  obtain ⟨Pc_1, hc, hq⟩ := hq
  refine vp_callSi (W.runS (As := [.int p1, .int (0 : Int32), .int (2 : Int32)]) (rest := []) ⟨hx, hb, hml, hown, hts⟩ (tX3_within l Pc_1 p1 (0 : Int32) (2 : Int32) hc) (va_cwS 3 hts gX3_picture_X3_within rfl rfl rfl (by decide +kernel) ⟨Nat.le_of_ble_eq_true rfl, Nat.le_of_ble_eq_true rfl⟩) preEq rfl rfl hl.1 rfl (lv_room (Nat.le_of_ble_eq_true rfl)) dX3_picture_3 ⟨hcm, hsm⟩) (fun rc_1 hp => ?_)
  have hq := hq rc_1 hp
  refine lv_if_eq (tgt := 38) hx hb dX3_picture_6 (by decide) (fun hc => ?_) (fun hc => ?_)
  · have hq := hq.1 hc
    refine lv_iconst (v := (-1 : Int32)) hx hb dX3_picture_38 (by decide) ?_
    refine W.widen (k := mc) (n := ms) hcm hsm ?_
    exact w_iret (post := fun r (u : (Nat → Int32) × (Nat → Nat → Int32) × (Nat → Int32) × (Nat → Int64) × (Nat → Nat → Int32) × (Nat → Nat → Int64) × (Nat → Int32) × (Nat → Nat → Int32) × (Nat) × (Nat) × (vS)) => post r u.1 u.2.1 u.2.2.1 u.2.2.2.1 u.2.2.2.2.1 u.2.2.2.2.2.1 u.2.2.2.2.2.2.1 u.2.2.2.2.2.2.2.1 u.2.2.2.2.2.2.2.2.1 u.2.2.2.2.2.2.2.2.2.1 u.2.2.2.2.2.2.2.2.2.2) (wf := fun u : (Nat → Int32) × (Nat → Nat → Int32) × (Nat → Int32) × (Nat → Int64) × (Nat → Nat → Int32) × (Nat → Nat → Int64) × (Nat → Int32) × (Nat → Nat → Int32) × (Nat) × (Nat) × (vS) => wd3 cI cJ cP h ad ad0 ad1 u.1 u.2.1 u.2.2.1 u.2.2.2.1 u.2.2.2.2.1 u.2.2.2.2.2.1 u.2.2.2.2.2.2.1 u.2.2.2.2.2.2.2.1 u.2.2.2.2.2.2.2.2.1 u.2.2.2.2.2.2.2.2.2.1 u.2.2.2.2.2.2.2.2.2.2) (u := (I, R, CI, CJ, CR, CG, EI, ER, Eq, En, V)) hx hb hr hK hP hD hS hq dX3_picture_39 hlocks
  · have hq := hq.2 hc
    refine lv_iload_n hx hb dX3_picture_9 rfl (lv_at hl 2 rfl) ?_
    refine lv_iconst (v := (0 : Int32)) hx hb dX3_picture_10 (by decide) ?_
    refine lv_bipush (v := (100 : Int32)) hx hb dX3_picture_11 (by decide) ?_
    obtain ⟨Pc_2, hc, hq⟩ := hq
    refine vp_callSi (W.runS (As := [.int p2, .int (0 : Int32), .int (100 : Int32)]) (rest := []) ⟨hx, hb, hml, hown, hts⟩ (tX3_within l Pc_2 p2 (0 : Int32) (100 : Int32) hc) (va_cwS 3 hts gX3_picture_X3_within rfl rfl rfl (by decide +kernel) ⟨Nat.le_of_ble_eq_true rfl, Nat.le_of_ble_eq_true rfl⟩) preEq rfl rfl hl.1 rfl (lv_room (Nat.le_of_ble_eq_true rfl)) dX3_picture_13 ⟨hcm, hsm⟩) (fun rc_2 hp => ?_)
    have hq := hq rc_2 hp
    refine lv_if_eq (tgt := 38) hx hb dX3_picture_16 (by decide) (fun hc => ?_) (fun hc => ?_)
    · have hq := hq.1 hc
      refine lv_iconst (v := (-1 : Int32)) hx hb dX3_picture_38 (by decide) ?_
      refine W.widen (k := mc) (n := ms) hcm hsm ?_
      exact w_iret (post := fun r (u : (Nat → Int32) × (Nat → Nat → Int32) × (Nat → Int32) × (Nat → Int64) × (Nat → Nat → Int32) × (Nat → Nat → Int64) × (Nat → Int32) × (Nat → Nat → Int32) × (Nat) × (Nat) × (vS)) => post r u.1 u.2.1 u.2.2.1 u.2.2.2.1 u.2.2.2.2.1 u.2.2.2.2.2.1 u.2.2.2.2.2.2.1 u.2.2.2.2.2.2.2.1 u.2.2.2.2.2.2.2.2.1 u.2.2.2.2.2.2.2.2.2.1 u.2.2.2.2.2.2.2.2.2.2) (wf := fun u : (Nat → Int32) × (Nat → Nat → Int32) × (Nat → Int32) × (Nat → Int64) × (Nat → Nat → Int32) × (Nat → Nat → Int64) × (Nat → Int32) × (Nat → Nat → Int32) × (Nat) × (Nat) × (vS) => wd3 cI cJ cP h ad ad0 ad1 u.1 u.2.1 u.2.2.1 u.2.2.2.1 u.2.2.2.2.1 u.2.2.2.2.2.1 u.2.2.2.2.2.2.1 u.2.2.2.2.2.2.2.1 u.2.2.2.2.2.2.2.2.1 u.2.2.2.2.2.2.2.2.2.1 u.2.2.2.2.2.2.2.2.2.2) (u := (I, R, CI, CJ, CR, CG, EI, ER, Eq, En, V)) hx hb hr hK hP hD hS hq dX3_picture_39 hlocks
    · have hq := hq.2 hc
      refine lv_iload_n hx hb dX3_picture_19 rfl (lv_at hl 3 rfl) ?_
      refine lv_iconst (v := (1 : Int32)) hx hb dX3_picture_20 (by decide) ?_
      refine lv_bipush (v := (12 : Int32)) hx hb dX3_picture_21 (by decide) ?_
      obtain ⟨Pc_3, hc, hq⟩ := hq
      refine vp_callSi (W.runS (As := [.int p3, .int (1 : Int32), .int (12 : Int32)]) (rest := []) ⟨hx, hb, hml, hown, hts⟩ (tX3_within l Pc_3 p3 (1 : Int32) (12 : Int32) hc) (va_cwS 3 hts gX3_picture_X3_within rfl rfl rfl (by decide +kernel) ⟨Nat.le_of_ble_eq_true rfl, Nat.le_of_ble_eq_true rfl⟩) preEq rfl rfl hl.1 rfl (lv_room (Nat.le_of_ble_eq_true rfl)) dX3_picture_23 ⟨hcm, hsm⟩) (fun rc_3 hp => ?_)
      have hq := hq rc_3 hp
      refine lv_if_eq (tgt := 38) hx hb dX3_picture_26 (by decide) (fun hc => ?_) (fun hc => ?_)
      · have hq := hq.1 hc
        refine lv_iconst (v := (-1 : Int32)) hx hb dX3_picture_38 (by decide) ?_
        refine W.widen (k := mc) (n := ms) hcm hsm ?_
        exact w_iret (post := fun r (u : (Nat → Int32) × (Nat → Nat → Int32) × (Nat → Int32) × (Nat → Int64) × (Nat → Nat → Int32) × (Nat → Nat → Int64) × (Nat → Int32) × (Nat → Nat → Int32) × (Nat) × (Nat) × (vS)) => post r u.1 u.2.1 u.2.2.1 u.2.2.2.1 u.2.2.2.2.1 u.2.2.2.2.2.1 u.2.2.2.2.2.2.1 u.2.2.2.2.2.2.2.1 u.2.2.2.2.2.2.2.2.1 u.2.2.2.2.2.2.2.2.2.1 u.2.2.2.2.2.2.2.2.2.2) (wf := fun u : (Nat → Int32) × (Nat → Nat → Int32) × (Nat → Int32) × (Nat → Int64) × (Nat → Nat → Int32) × (Nat → Nat → Int64) × (Nat → Int32) × (Nat → Nat → Int32) × (Nat) × (Nat) × (vS) => wd3 cI cJ cP h ad ad0 ad1 u.1 u.2.1 u.2.2.1 u.2.2.2.1 u.2.2.2.2.1 u.2.2.2.2.2.1 u.2.2.2.2.2.2.1 u.2.2.2.2.2.2.2.1 u.2.2.2.2.2.2.2.2.1 u.2.2.2.2.2.2.2.2.2.1 u.2.2.2.2.2.2.2.2.2.2) (u := (I, R, CI, CJ, CR, CG, EI, ER, Eq, En, V)) hx hb hr hK hP hD hS hq dX3_picture_39 hlocks
      · have hq := hq.2 hc
        refine lv_aload_n hx hb dX3_picture_29 rfl (lv_at hl 0 rfl) ?_
        refine va_get (D := (dC, dI)) (ci := 3) (v := .int (I 4)) (C := RX3) (T := TX3) (N := 9) hx hb hts nX3_picture_X3 hown hK hP 0 rfl rfl 4 (by decide) (hts _ mX3_picture_f51) (fun _ h9 => h9) rfl dX3_picture_30 ?_
        refine lv_bipush (v := (14 : Int32)) hx hb dX3_picture_33 (by decide) ?_
        refine lv_icmp_lt (tgt := 40) hx hb dX3_picture_35 (by decide) (fun hc => ?_) (fun hc => ?_)
        · have hq := hq.1 hc
          refine lv_aload_n hx hb dX3_picture_40 rfl (lv_at hl 0 rfl) ?_
          refine va_get (D := (dC, dI)) (ci := 3) (v := .ref (ad 3)) (C := RX3) (T := TX3) (N := 9) hx hb hts nX3_picture_X3 hown hK hP 0 rfl rfl 3 (by decide) (hts _ mX3_picture_f18) (fun _ h9 => h9) rfl dX3_picture_41 ?_
          refine lv_aload_n hx hb dX3_picture_44 rfl (lv_at hl 0 rfl) ?_
          refine va_get (D := (dC, dI)) (ci := 3) (v := .int (I 4)) (C := RX3) (T := TX3) (N := 9) hx hb hts nX3_picture_X3 hown hK hP 0 rfl rfl 4 (by decide) (hts _ mX3_picture_f51) (fun _ h9 => h9) rfl dX3_picture_45 ?_
          obtain ⟨hI9, hN9, ⟨hcm, hsm⟩, hq⟩ := hq
          refine va_new (ci := 2) (fs := [.int 0, .int 0, .int 0, .int 0, .null, .null, .null, .null, .int 0, .int 0, .null]) (C := RX2) (T := TX2) (N := 11) hx hb hts nX3_picture_X2 tyX2 tyX2_ok hown (hts _ mX3_picture_cl16) (hts _ mX3_picture_inX2) (hts _ mX3_picture_iiX2) hK hP hD hS hA rfl (fun j hj => dflX2 j hj) (by show 0 + 1 ≤ mc; omega) (by show 0 + 11 ≤ ms; omega) dX3_picture_48 (fun aq_4 H hP hD hS => ?_)
          refine lv_dup hx hb dX3_picture_51 rfl ?_
          refine lv_iload_n hx hb dX3_picture_52 rfl (lv_at hl 1 rfl) ?_
          refine lv_iload_n hx hb dX3_picture_53 rfl (lv_at hl 2 rfl) ?_
          refine lv_iload_n hx hb dX3_picture_54 rfl (lv_at hl 3 rfl) ?_
          refine x_callv (w1 := wd3 cI cJ cP h ad ad0 ad1 I R CI CJ CR CG EI ER Eq En V) (ws := [(aq_4, .inr (2, [.int 0, .int 0, .int 0, .int 0, .null, .null, .null, .null, .int 0, .int 0, .null]))]) (w2 := []) (wf := fun u : Nat → Nat => wd2 cI aq_4 u (va_up (va_up (va_up (fun _ => 0) 0 p1) 1 p2) 2 p3) (fun _ _ => 0)) (va_runI (As := [.int p1, .int p2, .int p3]) (rest := [.ref aq_4, .int (I 4), .ref (ad 3)]) ⟨hx, hb, hml, hown, hts⟩ (Met_frame_v (wr := []) (w := [(aq_4, .inr (2, [.int 0, .int 0, .int 0, .int 0, .null, .null, .null, .null, .int 0, .int 0, .null]))]) (w' := fun u : Nat → Nat => wd2 cI aq_4 u (va_up (va_up (va_up (fun _ => 0) 0 p1) 1 p2) 2 p3) (fun _ _ => 0)) (tys2 := [(cI, .int), (cJ, .long), (cP, .object "YearBook$Picture")]) (tX2_init l dC dI cI aq_4 _ p1 p2 p3) (List.Perm.refl _) (fun u => by rw [List.append_nil]) (fun U hU => hU.sub [0] rfl)) (cwI 3 hts gX3_picture_X2_init rfl rfl rfl (hts _ mX3_picture_iiX2) (hts _ mX3_picture_m62) (hts _ mX3_picture_imX2) rfl (by decide +kernel) ⟨Nat.le_of_ble_eq_true rfl, Nat.le_of_ble_eq_true rfl⟩) (wPreS hK (vP_l (vP_r (a := wd3 cI cJ cP h ad ad0 ad1 I R CI CJ CR CG EI ER Eq En V) hP)) (vD_l (vD_r (a := wd3 cI cJ cP h ad ad0 ad1 I R CI CJ CR CG EI ER Eq En V) hD))) rfl rfl hl.1 rfl (lv_room (Nat.le_of_ble_eq_true rfl)) dX3_picture_55 ⟨by show 0 + 1 + 5 ≤ mc; omega, by show 0 + 11 + 36 ≤ ms; omega⟩) hP hD hS hA (fun uq_4 H locs _ hP hD hS => ?_)
          have hq := hq aq_4 uq_4
          have hP : va_P (dC, dI) vwCl ((wd3 cI cJ cP h ad ad0 ad1 I R CI CJ CR CG EI ER Eq En V) ++ (wd2 cI aq_4 uq_4 (va_up (va_up (va_up (fun _ => 0) 0 p1) 1 p2) 2 p3) (fun _ _ => 0))) H := hP
          have hD : va_D A ((wd3 cI cJ cP h ad ad0 ad1 I R CI CJ CR CG EI ER Eq En V) ++ (wd2 cI aq_4 uq_4 (va_up (va_up (va_up (fun _ => 0) 0 p1) 1 p2) 2 p3) (fun _ _ => 0))) := hD
          obtain ⟨qk, hqk⟩ := List.getElem?_of_mem (List.mem_append_right (wd3 cI cJ cP h ad ad0 ad1 I R CI CJ CR CG EI ER Eq En V) (List.mem_cons_self (a := (aq_4, .inr (2, [.int p1, .int p2, .int p3, .int 0, .ref (uq_4 4), .ref (uq_4 5), .ref (uq_4 6), .ref (uq_4 7), .int 0, .int 0, .ref (uq_4 10)]))) (l := (wd2 cI aq_4 uq_4 (va_up (va_up (va_up (fun _ => 0) 0 p1) 1 p2) 2 p3) (fun _ _ => 0)).tail)))
          refine va_astq (f := pvP V) hx hb hK hP hD hS 3 2 qk 2 rfl rfl hqk rfl (by rw [hI9]; exact vp_in_nI hN9 (by decide)) dX3_picture_58 (fun H locs hP hD hS => ?_)
          rw [wd3_P, hI9, nI_clamp (show pvN V < 2 ^ 31 by omega), wd3_new] at hP hD
          refine W.widen (k := 0 + 6) (n := 0 + 47) (by omega) (by omega) ?_
          refine lv_aload_n hx hb dX3_picture_59 rfl (lv_at hl 0 rfl) ?_
          refine va_get (D := (dC, dI)) (ci := 3) (v := .ref (ad 8)) (C := RX3) (T := TX3) (N := 9) hx hb hts nX3_picture_X3 hown hK hP 0 rfl rfl 8 (by decide) (hts _ mX3_picture_f35) (fun _ h9 => h9) rfl dX3_picture_60 ?_
          refine lv_iload_n hx hb dX3_picture_63 rfl (lv_at hl 3 rfl) ?_
          obtain ⟨Pc_5, hc, hq⟩ := hq
          refine w_callv (wf := fun u : (Nat → Int32) × (Nat → Nat → Int32) × (Nat) × (Nat) => wd3 cI cJ cP h ad ad0 ad1 I R CI CJ CR CG u.1 u.2.1 u.2.2.1 u.2.2.2 (pvNew V aq_4 uq_4 p1 p2 p3)) (va_runV (As := [.int p3]) (rest := []) ⟨hx, hb, hml, hown, hts⟩ (Met_frame_v (w' := fun u : (Nat → Int32) × (Nat → Nat → Int32) × (Nat) × (Nat) => wd3 cI cJ cP h ad ad0 ad1 I R CI CJ CR CG u.1 u.2.1 u.2.2.1 u.2.2.2 (pvNew V aq_4 uq_4 p1 p2 p3)) (tys2 := [(cI, .int), (cJ, .long), (cP, .object "YearBook$Picture")]) (tX1_hearOf l dC dI cI (ad 8) ad1 _ Pc_5 p3 EI ER Eq En hc) (p3e cI cJ cP h ad ad0 ad1 I R CI CJ CR CG EI ER Eq En (pvNew V aq_4 uq_4 p1 p2 p3)) (fun u => (p3e cI cJ cP h ad ad0 ad1 I R CI CJ CR CG u.1 u.2.1 u.2.2.1 u.2.2.2 (pvNew V aq_4 uq_4 p1 p2 p3)).symm) (fun U hU => hU.sub [0] rfl)) (cwV 1 hts gX3_picture_X1_hearOf rfl rfl rfl (by decide +kernel) ⟨Nat.le_of_ble_eq_true rfl, Nat.le_of_ble_eq_true rfl⟩) (wPreV hK hP hD (ci := 1) (q0 := 13) rfl rfl) rfl rfl hl.1 rfl (lv_room (Nat.le_of_ble_eq_true rfl)) dX3_picture_64 ⟨hcm, hsm⟩) hD hS hA (fun u H locs hp hP hD hS => ?_)
          obtain ⟨EIc_5, ERc_5, Eqc_5, Enc_5⟩ := u
          have hq := hq EIc_5 ERc_5 Eqc_5 Enc_5 hp
          have hP : va_P (dC, dI) vwCl (wd3 cI cJ cP h ad ad0 ad1 I R CI CJ CR CG EIc_5 ERc_5 Eqc_5 Enc_5 (pvNew V aq_4 uq_4 p1 p2 p3)) H := hP
          have hD : va_D A (wd3 cI cJ cP h ad ad0 ad1 I R CI CJ CR CG EIc_5 ERc_5 Eqc_5 Enc_5 (pvNew V aq_4 uq_4 p1 p2 p3)) := hD
          refine lv_aload_n hx hb dX3_picture_67 rfl (lv_at hl 0 rfl) ?_
          refine lv_dup hx hb dX3_picture_68 rfl ?_
          refine va_get (D := (dC, dI)) (ci := 3) (v := .int (I 4)) (C := RX3) (T := TX3) (N := 9) hx hb hts nX3_picture_X3 hown hK hP 0 rfl rfl 4 (by decide) (hts _ mX3_picture_f51) (fun _ h9 => h9) rfl dX3_picture_69 ?_
          refine lv_dup_x1 hx hb dX3_picture_72 rfl rfl ?_
          refine lv_iconst (v := (1 : Int32)) hx hb dX3_picture_73 (by decide) ?_
          refine lv_iadd hx hb dX3_picture_74 ?_
          refine va_put (D := (dC, dI)) (ci := 3) (v := .int ((I 4) + (1 : Int32))) (ty := .int) (C := RX3) (T := TX3) (N := 9) hx hb hts nX3_picture_X3 tyX3 tyX3_ok nmX3 hown hK hP hD hS 0 rfl rfl 4 (by decide) (hts _ mX3_picture_f51) (fun _ h9 => h9) rfl (by decide +kernel) rfl rfl (Nat.le_of_ble_eq_true rfl) dX3_picture_75 (fun H locs hP hD hS => ?_)
          rw [wd3_I4] at hP hD
          refine W.widen (k := mc) (n := ms) hcm hsm ?_
          exact w_iret (post := fun r (u : (Nat → Int32) × (Nat → Nat → Int32) × (Nat → Int32) × (Nat → Int64) × (Nat → Nat → Int32) × (Nat → Nat → Int64) × (Nat → Int32) × (Nat → Nat → Int32) × (Nat) × (Nat) × (vS)) => post r u.1 u.2.1 u.2.2.1 u.2.2.2.1 u.2.2.2.2.1 u.2.2.2.2.2.1 u.2.2.2.2.2.2.1 u.2.2.2.2.2.2.2.1 u.2.2.2.2.2.2.2.2.1 u.2.2.2.2.2.2.2.2.2.1 u.2.2.2.2.2.2.2.2.2.2) (wf := fun u : (Nat → Int32) × (Nat → Nat → Int32) × (Nat → Int32) × (Nat → Int64) × (Nat → Nat → Int32) × (Nat → Nat → Int64) × (Nat → Int32) × (Nat → Nat → Int32) × (Nat) × (Nat) × (vS) => wd3 cI cJ cP h ad ad0 ad1 u.1 u.2.1 u.2.2.1 u.2.2.2.1 u.2.2.2.2.1 u.2.2.2.2.2.1 u.2.2.2.2.2.2.1 u.2.2.2.2.2.2.2.1 u.2.2.2.2.2.2.2.2.1 u.2.2.2.2.2.2.2.2.2.1 u.2.2.2.2.2.2.2.2.2.2) (u := (va_up I 4 ((I 4) + (1 : Int32)), R, CI, CJ, CR, CG, EIc_5, ERc_5, Eqc_5, Enc_5, (pvNew V aq_4 uq_4 p1 p2 p3))) hx hb hr hK hP hD hS hq dX3_picture_78 hlocks
        · have hq := hq.2 hc
          refine lv_iconst (v := (-1 : Int32)) hx hb dX3_picture_38 (by decide) ?_
          refine W.widen (k := mc) (n := ms) hcm hsm ?_
          exact w_iret (post := fun r (u : (Nat → Int32) × (Nat → Nat → Int32) × (Nat → Int32) × (Nat → Int64) × (Nat → Nat → Int32) × (Nat → Nat → Int64) × (Nat → Int32) × (Nat → Nat → Int32) × (Nat) × (Nat) × (vS)) => post r u.1 u.2.1 u.2.2.1 u.2.2.2.1 u.2.2.2.2.1 u.2.2.2.2.2.1 u.2.2.2.2.2.2.1 u.2.2.2.2.2.2.2.1 u.2.2.2.2.2.2.2.2.1 u.2.2.2.2.2.2.2.2.2.1 u.2.2.2.2.2.2.2.2.2.2) (wf := fun u : (Nat → Int32) × (Nat → Nat → Int32) × (Nat → Int32) × (Nat → Int64) × (Nat → Nat → Int32) × (Nat → Nat → Int64) × (Nat → Int32) × (Nat → Nat → Int32) × (Nat) × (Nat) × (vS) => wd3 cI cJ cP h ad ad0 ad1 u.1 u.2.1 u.2.2.1 u.2.2.2.1 u.2.2.2.2.1 u.2.2.2.2.2.1 u.2.2.2.2.2.2.1 u.2.2.2.2.2.2.2.1 u.2.2.2.2.2.2.2.2.1 u.2.2.2.2.2.2.2.2.2.1 u.2.2.2.2.2.2.2.2.2.2) (u := (I, R, CI, CJ, CR, CG, EI, ER, Eq, En, V)) hx hb hr hK hP hD hS hq dX3_picture_39 hlocks
def qX3_set (post : Int32 → (Nat → Int32) → (Nat → Nat → Int32) → (Nat → Int32) → (Nat → Int64) → (Nat → Nat → Int32) → (Nat → Nat → Int64) → (Nat → Int32) → (Nat → Nat → Int32) → Nat → Nat → vS → Prop) (p1 : Int32) (p2 : Int32) (I : Nat → Int32) (R : Nat → Nat → Int32) (CI : Nat → Int32) (CJ : Nat → Int64) (CR : Nat → Nat → Int32) (CG : Nat → Nat → Int64) (EI : Nat → Int32) (ER : Nat → Nat → Int32) (Eq : Nat) (En : Nat) (V : vS) : Prop := ∃ Pc_1 : Int32 → Prop, qX3_within Pc_1 p1 (0 : Int32) (3 : Int32) ∧ (∀ (rc_1 : Int32), Pc_1 rc_1 → (((rc_1 = 0) → (post (-1 : Int32) I R CI CJ CR CG EI ER Eq En V)) ∧ ((¬ rc_1 = 0) → (vp_in p1 4 ∧ (∃ Pc_3 : Int32 → Prop, qX3_within Pc_3 p2 (sL p1) (sM p1) ∧ (∀ (rc_3 : Int32), Pc_3 rc_3 → (((¬ rc_3 = 0) → (∀ x3_4 : Int32, x3_4 = R 5 p1.toNatClampNeg → (post x3_4 I (va_up R 5 (upd (R 5) p1.toNatClampNeg p2)) CI CJ CR CG EI ER Eq En V))) ∧ ((rc_3 = 0) → (post (-1 : Int32) I R CI CJ CR CG EI ER Eq En V)))))))))
theorem mX3_set_f79 : Cond.fieldLink RX3 79 "YearBook" "LEAST_SETTING" "[I" ∈ wsX3_set := by decide +kernel
theorem mX3_set_f82 : Cond.fieldLink RX3 82 "YearBook" "MOST_SETTING" "[I" ∈ wsX3_set := by decide +kernel
theorem mX3_set_f22 : Cond.fieldLink RX3 22 "YearBook" "settings" "[I" ∈ wsX3_set := by decide +kernel
theorem nX3_set_X3 : ∀ w ∈ u_ws RX3 TX3 9, w ∈ wsX3_set := by decide +kernel
set_option maxHeartbeats 4000000 in
set_option maxRecDepth 100000 in
theorem tX3_set (l : Launch) (dC : Nat → ClassId) (dI : Nat → Nat → Nat) (cI : ClassId) (cJ : ClassId) (cP : ClassId) (h : Nat) (ad ad0 ad1 : Nat → Nat) (tL tM : Nat)  (sz : Nat) (post : Int32 → (Nat → Int32) → (Nat → Nat → Int32) → (Nat → Int32) → (Nat → Int64) → (Nat → Nat → Int32) → (Nat → Nat → Int64) → (Nat → Int32) → (Nat → Nat → Int32) → Nat → Nat → vS → Prop) (p1 : Int32) (p2 : Int32) (I : Nat → Int32) (R : Nat → Nat → Int32) (CI : Nat → Int32) (CJ : Nat → Int64) (CR : Nat → Nat → Int32) (CG : Nat → Nat → Int64) (EI : Nat → Int32) (ER : Nat → Nat → Int32) (Eq : Nat) (En : Nat) (V : vS) (hq : qX3_set post p1 p2 I R CI CJ CR CG EI ER Eq En V) : Met l yX3_set wsX3_set ({ frames := 1, cells := 0, slots := 0, locals := 22 } : Room) (va_Pc [.ref h, .int p1, .int p2] (fun U => wPreN (dC, dI) vwCl [(cI, .int), (cJ, .long), (cP, .object "YearBook$Picture")] (wd3 cI cJ cP h ad ad0 ad1 I R CI CJ CR CG EI ER Eq En V) sz U ∧ stF tL tM (va_A (wd3 cI cJ cP h ad ad0 ad1 I R CI CJ CR CG EI ER Eq En V) sz) U U.heap)) (va_Qi (fun r (u : (Nat → Int32) × (Nat → Nat → Int32) × (Nat → Int32) × (Nat → Int64) × (Nat → Nat → Int32) × (Nat → Nat → Int64) × (Nat → Int32) × (Nat → Nat → Int32) × (Nat) × (Nat) × (vS)) => post r u.1 u.2.1 u.2.2.1 u.2.2.2.1 u.2.2.2.2.1 u.2.2.2.2.2.1 u.2.2.2.2.2.2.1 u.2.2.2.2.2.2.2.1 u.2.2.2.2.2.2.2.2.1 u.2.2.2.2.2.2.2.2.2.1 u.2.2.2.2.2.2.2.2.2.2) (wAt (dC, dI) vwCl [(cI, .int), (cJ, .long), (cP, .object "YearBook$Picture")] (va_A (wd3 cI cJ cP h ad ad0 ad1 I R CI CJ CR CG EI ER Eq En V) sz) (fun u : (Nat → Int32) × (Nat → Nat → Int32) × (Nat → Int32) × (Nat → Int64) × (Nat → Nat → Int32) × (Nat → Nat → Int64) × (Nat → Int32) × (Nat → Nat → Int32) × (Nat) × (Nat) × (vS) => wd3 cI cJ cP h ad ad0 ad1 u.1 u.2.1 u.2.2.1 u.2.2.2.1 u.2.2.2.2.1 u.2.2.2.2.2.1 u.2.2.2.2.2.2.1 u.2.2.2.2.2.2.2.1 u.2.2.2.2.2.2.2.2.1 u.2.2.2.2.2.2.2.2.2.1 u.2.2.2.2.2.2.2.2.2.2)) (va_A (wd3 cI cJ cP h ad ad0 ad1 I R CI CJ CR CG EI ER Eq En V) sz)) 0 0 (va_A (wd3 cI cJ cP h ad ad0 ad1 I R CI CJ CR CG EI ER Eq En V) sz) := by
  unfold qX3_set at hq
  refine Met.ofW (cc := cX3_set) (maxL := 4) (ret := (some .int)) (by decide) rfl ?_
  intro p e s m args below meth c s₁ B hml hv
  obtain ⟨rfl, ⟨⟨hsz, hP, hK, hD0⟩, hn⟩, hst⟩ := hv
  have hx := B.exec
  have hb := B.bytes
  have hr := B.returns
  have hts := atoms_spec (ws := wsX3_set) B.pre
  have hown : s.vm.findClass RX3 = some m.cls := findClass_of_methodNamed B.named
  have hlocks := B.notSynchronized
  subst hsz
  have hD := hD0.self (sz := s.heap.size)
  generalize hAe : va_A (wd3 cI cJ cP h ad ad0 ad1 I R CI CJ CR CG EI ER Eq En V) s.heap.size = A at hD hst ⊢
  have hA : ∀ q : Nat, s.heap.size ≤ q → A q := fun q h => by rw [← hAe]; exact Or.inr h
  have hS : va_S A s.heap s.heap [] := va_S.rf
  have hl := lv_entry ([.ref h, .int p1, .int p2]) (n := 4) (Nat.le_of_ble_eq_true rfl)
  rw [lg_entry_eq]
  generalize (lg_sl ([.ref h, .int p1, .int p2]) ++ List.replicate (4 - (lg_sl ([.ref h, .int p1, .int p2])).length) Slot.unset).toArray = ls at hl ⊢
  have hl : lv_has ls 4 [(0, .ref h), (1, .int p1), (2, .int p2)] := hl
  refine lv_iload_n hx hb dX3_set_0 rfl (lv_at hl 1 rfl) ?_
  refine lv_iconst (v := (0 : Int32)) hx hb dX3_set_1 (by decide) ?_
  refine lv_iconst (v := (3 : Int32)) hx hb dX3_set_2 (by decide) ?_
  obtain ⟨Pc_1, hc, hq⟩ := hq
  refine vp_callSi (W.runS (As := [.int p1, .int (0 : Int32), .int (3 : Int32)]) (rest := []) ⟨hx, hb, hml, hown, hts⟩ (tX3_within l Pc_1 p1 (0 : Int32) (3 : Int32) hc) (va_cwS 3 hts gX3_set_X3_within rfl rfl rfl (by decide +kernel) ⟨Nat.le_of_ble_eq_true rfl, Nat.le_of_ble_eq_true rfl⟩) preEq rfl rfl hl.1 rfl (lv_room (Nat.le_of_ble_eq_true rfl)) dX3_set_3 ⟨Nat.le_of_ble_eq_true rfl, Nat.le_of_ble_eq_true rfl⟩) (fun rc_1 hp => ?_)
  have hq := hq rc_1 hp
  refine lv_if_eq (tgt := 26) hx hb dX3_set_6 (by decide) (fun hc => ?_) (fun hc => ?_)
  · have hq := hq.1 hc
    refine lv_iconst (v := (-1 : Int32)) hx hb dX3_set_26 (by decide) ?_
    exact w_iret (post := fun r (u : (Nat → Int32) × (Nat → Nat → Int32) × (Nat → Int32) × (Nat → Int64) × (Nat → Nat → Int32) × (Nat → Nat → Int64) × (Nat → Int32) × (Nat → Nat → Int32) × (Nat) × (Nat) × (vS)) => post r u.1 u.2.1 u.2.2.1 u.2.2.2.1 u.2.2.2.2.1 u.2.2.2.2.2.1 u.2.2.2.2.2.2.1 u.2.2.2.2.2.2.2.1 u.2.2.2.2.2.2.2.2.1 u.2.2.2.2.2.2.2.2.2.1 u.2.2.2.2.2.2.2.2.2.2) (wf := fun u : (Nat → Int32) × (Nat → Nat → Int32) × (Nat → Int32) × (Nat → Int64) × (Nat → Nat → Int32) × (Nat → Nat → Int64) × (Nat → Int32) × (Nat → Nat → Int32) × (Nat) × (Nat) × (vS) => wd3 cI cJ cP h ad ad0 ad1 u.1 u.2.1 u.2.2.1 u.2.2.2.1 u.2.2.2.2.1 u.2.2.2.2.2.1 u.2.2.2.2.2.2.1 u.2.2.2.2.2.2.2.1 u.2.2.2.2.2.2.2.2.1 u.2.2.2.2.2.2.2.2.2.1 u.2.2.2.2.2.2.2.2.2.2) (u := (I, R, CI, CJ, CR, CG, EI, ER, Eq, En, V)) hx hb hr hK hP hD hS hq dX3_set_27 hlocks
  · have hq := hq.2 hc
    refine lv_iload_n hx hb dX3_set_9 rfl (lv_at hl 2 rfl) ?_
    refine va_gets hx hb hst.1.1 hS hown (hts _ mX3_set_f79) (fun _ h9 => h9) dX3_set_10 ?_
    refine lv_iload_n hx hb dX3_set_13 rfl (lv_at hl 1 rfl) ?_
    obtain ⟨hi_2, hq⟩ := hq
    refine va_ti (v := .int (sL p1)) hx hb hst.1.2 hS hi_2 rfl dX3_set_14 ?_
    refine va_gets hx hb hst.2.1 hS hown (hts _ mX3_set_f82) (fun _ h9 => h9) dX3_set_15 ?_
    refine lv_iload_n hx hb dX3_set_18 rfl (lv_at hl 1 rfl) ?_
    refine va_ti (v := .int (sM p1)) hx hb hst.2.2 hS hi_2 rfl dX3_set_19 ?_
    obtain ⟨Pc_3, hc, hq⟩ := hq
    refine vp_callSi (W.runS (As := [.int p2, .int (sL p1), .int (sM p1)]) (rest := []) ⟨hx, hb, hml, hown, hts⟩ (tX3_within l Pc_3 p2 (sL p1) (sM p1) hc) (va_cwS 3 hts gX3_set_X3_within rfl rfl rfl (by decide +kernel) ⟨Nat.le_of_ble_eq_true rfl, Nat.le_of_ble_eq_true rfl⟩) preEq rfl rfl hl.1 rfl (lv_room (Nat.le_of_ble_eq_true rfl)) dX3_set_20 ⟨Nat.le_of_ble_eq_true rfl, Nat.le_of_ble_eq_true rfl⟩) (fun rc_3 hp => ?_)
    have hq := hq rc_3 hp
    refine lv_if_ne (tgt := 28) hx hb dX3_set_23 (by decide) (fun hc => ?_) (fun hc => ?_)
    · have hq := hq.1 hc
      refine lv_aload_n hx hb dX3_set_28 rfl (lv_at hl 0 rfl) ?_
      refine va_get (D := (dC, dI)) (ci := 3) (v := .ref (ad 5)) (C := RX3) (T := TX3) (N := 9) hx hb hts nX3_set_X3 hown hK hP 0 rfl rfl 5 (by decide) (hts _ mX3_set_f22) (fun _ h9 => h9) rfl dX3_set_29 ?_
      refine lv_iload_n hx hb dX3_set_32 rfl (lv_at hl 1 rfl) ?_
      refine va_iald (f := R 5) hx hb hK hP 4 0 rfl rfl hi_2 dX3_set_33 ?_
      refine lv_topi (fun x3_4 ex3_4 => ?_)
      have hq := hq x3_4 ex3_4
      refine lv_istore_n (lv' := [(3, .int x3_4), (0, .ref h), (1, .int p1), (2, .int p2)]) hx hb dX3_set_34 rfl hl (by decide) rfl (fun ls hl => ?_)
      refine lv_aload_n hx hb dX3_set_35 rfl (lv_at hl 1 rfl) ?_
      refine va_get (D := (dC, dI)) (ci := 3) (v := .ref (ad 5)) (C := RX3) (T := TX3) (N := 9) hx hb hts nX3_set_X3 hown hK hP 0 rfl rfl 5 (by decide) (hts _ mX3_set_f22) (fun _ h9 => h9) rfl dX3_set_36 ?_
      refine lv_iload_n hx hb dX3_set_39 rfl (lv_at hl 2 rfl) ?_
      refine lv_iload_n hx hb dX3_set_40 rfl (lv_at hl 3 rfl) ?_
      refine va_iast (f := R 5) hx hb hK hP hD hS 4 0 rfl rfl hi_2 dX3_set_41 (fun H locs hP hD hS => ?_)
      rw [wd3_R5] at hP hD
      refine lv_iload_n hx hb dX3_set_42 rfl (lv_at hl 0 rfl) ?_
      exact w_iret (post := fun r (u : (Nat → Int32) × (Nat → Nat → Int32) × (Nat → Int32) × (Nat → Int64) × (Nat → Nat → Int32) × (Nat → Nat → Int64) × (Nat → Int32) × (Nat → Nat → Int32) × (Nat) × (Nat) × (vS)) => post r u.1 u.2.1 u.2.2.1 u.2.2.2.1 u.2.2.2.2.1 u.2.2.2.2.2.1 u.2.2.2.2.2.2.1 u.2.2.2.2.2.2.2.1 u.2.2.2.2.2.2.2.2.1 u.2.2.2.2.2.2.2.2.2.1 u.2.2.2.2.2.2.2.2.2.2) (wf := fun u : (Nat → Int32) × (Nat → Nat → Int32) × (Nat → Int32) × (Nat → Int64) × (Nat → Nat → Int32) × (Nat → Nat → Int64) × (Nat → Int32) × (Nat → Nat → Int32) × (Nat) × (Nat) × (vS) => wd3 cI cJ cP h ad ad0 ad1 u.1 u.2.1 u.2.2.1 u.2.2.2.1 u.2.2.2.2.1 u.2.2.2.2.2.1 u.2.2.2.2.2.2.1 u.2.2.2.2.2.2.2.1 u.2.2.2.2.2.2.2.2.1 u.2.2.2.2.2.2.2.2.2.1 u.2.2.2.2.2.2.2.2.2.2) (u := (I, va_up R 5 (upd (R 5) p1.toNatClampNeg p2), CI, CJ, CR, CG, EI, ER, Eq, En, V)) hx hb hr hK hP hD hS hq dX3_set_43 hlocks
    · have hq := hq.2 hc
      refine lv_iconst (v := (-1 : Int32)) hx hb dX3_set_26 (by decide) ?_
      exact w_iret (post := fun r (u : (Nat → Int32) × (Nat → Nat → Int32) × (Nat → Int32) × (Nat → Int64) × (Nat → Nat → Int32) × (Nat → Nat → Int64) × (Nat → Int32) × (Nat → Nat → Int32) × (Nat) × (Nat) × (vS)) => post r u.1 u.2.1 u.2.2.1 u.2.2.2.1 u.2.2.2.2.1 u.2.2.2.2.2.1 u.2.2.2.2.2.2.1 u.2.2.2.2.2.2.2.1 u.2.2.2.2.2.2.2.2.1 u.2.2.2.2.2.2.2.2.2.1 u.2.2.2.2.2.2.2.2.2.2) (wf := fun u : (Nat → Int32) × (Nat → Nat → Int32) × (Nat → Int32) × (Nat → Int64) × (Nat → Nat → Int32) × (Nat → Nat → Int64) × (Nat → Int32) × (Nat → Nat → Int32) × (Nat) × (Nat) × (vS) => wd3 cI cJ cP h ad ad0 ad1 u.1 u.2.1 u.2.2.1 u.2.2.2.1 u.2.2.2.2.1 u.2.2.2.2.2.1 u.2.2.2.2.2.2.1 u.2.2.2.2.2.2.2.1 u.2.2.2.2.2.2.2.2.1 u.2.2.2.2.2.2.2.2.2.1 u.2.2.2.2.2.2.2.2.2.2) (u := (I, R, CI, CJ, CR, CG, EI, ER, Eq, En, V)) hx hb hr hK hP hD hS hq dX3_set_27 hlocks
