def qX4_page (post : Int32 → (Nat → Int32) → (Nat → Nat → Int32) → Prop) (p1 : Int32) (I : Nat → Int32) (R : Nat → Nat → Int32) : Prop := ∃ Pc_1 : Int32 → Prop, qX4_in Pc_1 p1 (0 : Int32) ((I 18) - (1 : Int32)) ∧ (∀ (rc_1 : Int32), Pc_1 rc_1 → (((rc_1 = 0) → (post (-1 : Int32) (va_up I 19 (0 : Int32)) R)) ∧ ((¬ rc_1 = 0) → (vp_in p1 14 ∧ (post (R 17 p1.toNatClampNeg) (va_up I 19 (0 : Int32)) R)))))
theorem mX4_page_f71 : Cond.fieldLink RX4 71 "YearBookModel" "thrown" "I" ∈ wsX4_page := by decide +kernel
theorem nX4_page_X4 : ∀ w ∈ u_ws RX4 TX4 27, w ∈ wsX4_page := by decide +kernel
theorem mX4_page_f114 : Cond.fieldLink RX4 114 "YearBookModel" "pageMany" "I" ∈ wsX4_page := by decide +kernel
theorem mX4_page_f50 : Cond.fieldLink RX4 50 "YearBookModel" "pages" "[I" ∈ wsX4_page := by decide +kernel
set_option maxHeartbeats 4000000 in
set_option maxRecDepth 100000 in
theorem tX4_page (l : Launch) (dC : Nat → ClassId) (dI : Nat → Nat → Nat) (cI : ClassId) (h : Nat) (ad : Nat → Nat)  (sz : Nat) (post : Int32 → (Nat → Int32) → (Nat → Nat → Int32) → Prop) (p1 : Int32) (I : Nat → Int32) (R : Nat → Nat → Int32) (hq : qX4_page post p1 I R) : Met l yX4_page wsX4_page ({ frames := 1, cells := 0, slots := 0, locals := 22 } : Room) (va_Pc [.ref h, .int p1] (wPre (dC, dI) vwCl [(cI, .int)] (wd4 cI h ad I R) sz)) (va_Qi (fun r (u : (Nat → Int32) × (Nat → Nat → Int32)) => post r u.1 u.2) (wAt (dC, dI) vwCl [(cI, .int)] (va_A (wd4 cI h ad I R) sz) (fun u : (Nat → Int32) × (Nat → Nat → Int32) => wd4 cI h ad u.1 u.2)) (va_A (wd4 cI h ad I R) sz)) 0 0 (va_A (wd4 cI h ad I R) sz) := by
  unfold qX4_page at hq
  refine Met.ofW (cc := cX4_page) (maxL := 2) (ret := (some .int)) (by decide) rfl ?_
  intro p e s m args below meth c s₁ B hml hv
  obtain ⟨rfl, hsz, hP, hK, hD0⟩ := hv
  have hx := B.exec
  have hb := B.bytes
  have hr := B.returns
  have hts := atoms_spec (ws := wsX4_page) B.pre
  have hown : s.vm.findClass RX4 = some m.cls := findClass_of_methodNamed B.named
  have hlocks := B.notSynchronized
  subst hsz
  have hD := hD0.self (sz := s.heap.size)
  generalize hAe : va_A (wd4 cI h ad I R) s.heap.size = A at hD ⊢
  have hA : ∀ q : Nat, s.heap.size ≤ q → A q := fun q h => by rw [← hAe]; exact Or.inr h
  have hS : va_S A s.heap s.heap [] := va_S.rf
  have hl := lv_entry ([.ref h, .int p1]) (n := 2) (Nat.le_of_ble_eq_true rfl)
  rw [lg_entry_eq]
  generalize (lg_sl ([.ref h, .int p1]) ++ List.replicate (2 - (lg_sl ([.ref h, .int p1])).length) Slot.unset).toArray = ls at hl ⊢
  have hl : lv_has ls 2 [(0, .ref h), (1, .int p1)] := hl
  refine lv_aload_n hx hb dX4_page_0 rfl (lv_at hl 0 rfl) ?_
  refine lv_iconst (v := (0 : Int32)) hx hb dX4_page_1 (by decide) ?_
  refine va_put (D := (dC, dI)) (ci := 4) (v := .int (0 : Int32)) (ty := .int) (C := RX4) (T := TX4) (N := 27) hx hb hts nX4_page_X4 tyX4 tyX4_ok nmX4 hown hK hP hD hS 0 rfl rfl 19 (by decide) (hts _ mX4_page_f71) (fun _ h9 => h9) rfl (by decide +kernel) rfl rfl (Nat.le_of_ble_eq_true rfl) dX4_page_2 (fun H locs hP hD hS => ?_)
  rw [wd4_I19] at hP hD
  refine lv_iload_n hx hb dX4_page_5 rfl (lv_at hl 1 rfl) ?_
  refine lv_iconst (v := (0 : Int32)) hx hb dX4_page_6 (by decide) ?_
  refine lv_aload_n hx hb dX4_page_7 rfl (lv_at hl 0 rfl) ?_
  refine va_get (D := (dC, dI)) (ci := 4) (v := .int (I 18)) (C := RX4) (T := TX4) (N := 27) hx hb hts nX4_page_X4 hown hK hP 0 rfl rfl 18 (by decide) (hts _ mX4_page_f114) (fun _ h9 => h9) rfl dX4_page_8 ?_
  refine lv_iconst (v := (1 : Int32)) hx hb dX4_page_11 (by decide) ?_
  refine lv_isub hx hb dX4_page_12 ?_
  obtain ⟨Pc_1, hc, hq⟩ := hq
  refine vp_callSi (W.runS (As := [.int p1, .int (0 : Int32), .int ((I 18) - (1 : Int32))]) (rest := []) ⟨hx, hb, hml, hown, hts⟩ (tX4_in l Pc_1 p1 (0 : Int32) ((I 18) - (1 : Int32)) hc) (va_cwS 3 hts gX4_page_X4_in rfl rfl rfl (by decide +kernel) ⟨Nat.le_of_ble_eq_true rfl, Nat.le_of_ble_eq_true rfl⟩) preEq rfl rfl hl.1 rfl (lv_room (Nat.le_of_ble_eq_true rfl)) dX4_page_13 ⟨Nat.le_of_ble_eq_true rfl, Nat.le_of_ble_eq_true rfl⟩) (fun rc_1 hp => ?_)
  have hq := hq rc_1 hp
  refine lv_if_eq (tgt := 28) hx hb dX4_page_16 (by decide) (fun hc => ?_) (fun hc => ?_)
  · have hq := hq.1 hc
    refine lv_iconst (v := (-1 : Int32)) hx hb dX4_page_28 (by decide) ?_
    exact w_iret (post := fun r (u : (Nat → Int32) × (Nat → Nat → Int32)) => post r u.1 u.2) (wf := fun u : (Nat → Int32) × (Nat → Nat → Int32) => wd4 cI h ad u.1 u.2) (u := (va_up I 19 (0 : Int32), R)) hx hb hr hK hP hD hS hq dX4_page_29 hlocks
  · have hq := hq.2 hc
    refine lv_aload_n hx hb dX4_page_19 rfl (lv_at hl 0 rfl) ?_
    refine va_get (D := (dC, dI)) (ci := 4) (v := .ref (ad 17)) (C := RX4) (T := TX4) (N := 27) hx hb hts nX4_page_X4 hown hK hP 0 rfl rfl 17 (by decide) (hts _ mX4_page_f50) (fun _ h9 => h9) rfl dX4_page_20 ?_
    refine lv_iload_n hx hb dX4_page_23 rfl (lv_at hl 1 rfl) ?_
    obtain ⟨hi_2, hq⟩ := hq
    refine va_iald (f := R 17) hx hb hK hP 11 0 rfl rfl hi_2 dX4_page_24 ?_
    refine lv_goto (tgt := 29) hx hb dX4_page_25 (by decide) ?_
    exact w_iret (post := fun r (u : (Nat → Int32) × (Nat → Nat → Int32)) => post r u.1 u.2) (wf := fun u : (Nat → Int32) × (Nat → Nat → Int32) => wd4 cI h ad u.1 u.2) (u := (va_up I 19 (0 : Int32), R)) hx hb hr hK hP hD hS hq dX4_page_29 hlocks
def qX4_picture (post : Int32 → (Nat → Int32) → (Nat → Nat → Int32) → Prop) (p1 : Int32) (p2 : Int32) (p3 : Int32) (I : Nat → Int32) (R : Nat → Nat → Int32) : Prop := ∃ Pc_1 : Int32 → Prop, qX4_in Pc_1 p1 (0 : Int32) (2 : Int32) ∧ (∀ (rc_1 : Int32), Pc_1 rc_1 → (((rc_1 = 0) → (post (-1 : Int32) (va_up I 19 (0 : Int32)) R)) ∧ ((¬ rc_1 = 0) → (∃ Pc_2 : Int32 → Prop, qX4_in Pc_2 p2 (0 : Int32) (100 : Int32) ∧ (∀ (rc_2 : Int32), Pc_2 rc_2 → (((rc_2 = 0) → (post (-1 : Int32) (va_up I 19 (0 : Int32)) R)) ∧ ((¬ rc_2 = 0) → (∃ Pc_3 : Int32 → Prop, qX4_in Pc_3 p3 (1 : Int32) (12 : Int32) ∧ (∀ (rc_3 : Int32), Pc_3 rc_3 → (((rc_3 = 0) → (post (-1 : Int32) (va_up I 19 (0 : Int32)) R)) ∧ ((¬ rc_3 = 0) → (((¬ (I 11) = (14 : Int32)) → (vp_in (I 11) 14 ∧ (post (((I 11) + (1 : Int32)) - (1 : Int32)) (va_up (va_up I 19 (0 : Int32)) 11 ((I 11) + (1 : Int32))) (va_up (va_up (va_up (va_up R 3 (upd (R 3) (I 11).toNatClampNeg p1)) 4 (upd (R 4) (I 11).toNatClampNeg p2)) 5 (upd (R 5) (I 11).toNatClampNeg p3)) 6 (upd (R 6) (I 11).toNatClampNeg (0 : Int32)))))) ∧ (((I 11) = (14 : Int32)) → (post (-1 : Int32) (va_up I 19 (0 : Int32)) R))))))))))))))
theorem mX4_picture_f71 : Cond.fieldLink RX4 71 "YearBookModel" "thrown" "I" ∈ wsX4_picture := by decide +kernel
theorem nX4_picture_X4 : ∀ w ∈ u_ws RX4 TX4 27, w ∈ wsX4_picture := by decide +kernel
theorem mX4_picture_f74 : Cond.fieldLink RX4 74 "YearBookModel" "pictures" "I" ∈ wsX4_picture := by decide +kernel
theorem mX4_picture_f16 : Cond.fieldLink RX4 16 "YearBookModel" "kind" "[I" ∈ wsX4_picture := by decide +kernel
theorem mX4_picture_f19 : Cond.fieldLink RX4 19 "YearBookModel" "worth" "[I" ∈ wsX4_picture := by decide +kernel
theorem mX4_picture_f22 : Cond.fieldLink RX4 22 "YearBookModel" "size" "[I" ∈ wsX4_picture := by decide +kernel
theorem mX4_picture_f25 : Cond.fieldLink RX4 25 "YearBookModel" "faces" "[I" ∈ wsX4_picture := by decide +kernel
set_option maxHeartbeats 4000000 in
set_option maxRecDepth 100000 in
theorem tX4_picture (l : Launch) (dC : Nat → ClassId) (dI : Nat → Nat → Nat) (cI : ClassId) (h : Nat) (ad : Nat → Nat)  (sz : Nat) (post : Int32 → (Nat → Int32) → (Nat → Nat → Int32) → Prop) (p1 : Int32) (p2 : Int32) (p3 : Int32) (I : Nat → Int32) (R : Nat → Nat → Int32) (hq : qX4_picture post p1 p2 p3 I R) : Met l yX4_picture wsX4_picture ({ frames := 1, cells := 0, slots := 0, locals := 22 } : Room) (va_Pc [.ref h, .int p1, .int p2, .int p3] (wPre (dC, dI) vwCl [(cI, .int)] (wd4 cI h ad I R) sz)) (va_Qi (fun r (u : (Nat → Int32) × (Nat → Nat → Int32)) => post r u.1 u.2) (wAt (dC, dI) vwCl [(cI, .int)] (va_A (wd4 cI h ad I R) sz) (fun u : (Nat → Int32) × (Nat → Nat → Int32) => wd4 cI h ad u.1 u.2)) (va_A (wd4 cI h ad I R) sz)) 0 0 (va_A (wd4 cI h ad I R) sz) := by
  unfold qX4_picture at hq
  refine Met.ofW (cc := cX4_picture) (maxL := 4) (ret := (some .int)) (by decide) rfl ?_
  intro p e s m args below meth c s₁ B hml hv
  obtain ⟨rfl, hsz, hP, hK, hD0⟩ := hv
  have hx := B.exec
  have hb := B.bytes
  have hr := B.returns
  have hts := atoms_spec (ws := wsX4_picture) B.pre
  have hown : s.vm.findClass RX4 = some m.cls := findClass_of_methodNamed B.named
  have hlocks := B.notSynchronized
  subst hsz
  have hD := hD0.self (sz := s.heap.size)
  generalize hAe : va_A (wd4 cI h ad I R) s.heap.size = A at hD ⊢
  have hA : ∀ q : Nat, s.heap.size ≤ q → A q := fun q h => by rw [← hAe]; exact Or.inr h
  have hS : va_S A s.heap s.heap [] := va_S.rf
  have hl := lv_entry ([.ref h, .int p1, .int p2, .int p3]) (n := 4) (Nat.le_of_ble_eq_true rfl)
  rw [lg_entry_eq]
  generalize (lg_sl ([.ref h, .int p1, .int p2, .int p3]) ++ List.replicate (4 - (lg_sl ([.ref h, .int p1, .int p2, .int p3])).length) Slot.unset).toArray = ls at hl ⊢
  have hl : lv_has ls 4 [(0, .ref h), (1, .int p1), (2, .int p2), (3, .int p3)] := hl
  refine lv_aload_n hx hb dX4_picture_0 rfl (lv_at hl 0 rfl) ?_
  refine lv_iconst (v := (0 : Int32)) hx hb dX4_picture_1 (by decide) ?_
  refine va_put (D := (dC, dI)) (ci := 4) (v := .int (0 : Int32)) (ty := .int) (C := RX4) (T := TX4) (N := 27) hx hb hts nX4_picture_X4 tyX4 tyX4_ok nmX4 hown hK hP hD hS 0 rfl rfl 19 (by decide) (hts _ mX4_picture_f71) (fun _ h9 => h9) rfl (by decide +kernel) rfl rfl (Nat.le_of_ble_eq_true rfl) dX4_picture_2 (fun H locs hP hD hS => ?_)
  rw [wd4_I19] at hP hD
  refine lv_iload_n hx hb dX4_picture_5 rfl (lv_at hl 1 rfl) ?_
  refine lv_iconst (v := (0 : Int32)) hx hb dX4_picture_6 (by decide) ?_
  refine lv_iconst (v := (2 : Int32)) hx hb dX4_picture_7 (by decide) ?_
  obtain ⟨Pc_1, hc, hq⟩ := hq
  refine vp_callSi (W.runS (As := [.int p1, .int (0 : Int32), .int (2 : Int32)]) (rest := []) ⟨hx, hb, hml, hown, hts⟩ (tX4_in l Pc_1 p1 (0 : Int32) (2 : Int32) hc) (va_cwS 3 hts gX4_picture_X4_in rfl rfl rfl (by decide +kernel) ⟨Nat.le_of_ble_eq_true rfl, Nat.le_of_ble_eq_true rfl⟩) preEq rfl rfl hl.1 rfl (lv_room (Nat.le_of_ble_eq_true rfl)) dX4_picture_8 ⟨Nat.le_of_ble_eq_true rfl, Nat.le_of_ble_eq_true rfl⟩) (fun rc_1 hp => ?_)
  have hq := hq rc_1 hp
  refine lv_if_eq (tgt := 43) hx hb dX4_picture_11 (by decide) (fun hc => ?_) (fun hc => ?_)
  · have hq := hq.1 hc
    refine lv_iconst (v := (-1 : Int32)) hx hb dX4_picture_43 (by decide) ?_
    exact w_iret (post := fun r (u : (Nat → Int32) × (Nat → Nat → Int32)) => post r u.1 u.2) (wf := fun u : (Nat → Int32) × (Nat → Nat → Int32) => wd4 cI h ad u.1 u.2) (u := (va_up I 19 (0 : Int32), R)) hx hb hr hK hP hD hS hq dX4_picture_44 hlocks
  · have hq := hq.2 hc
    refine lv_iload_n hx hb dX4_picture_14 rfl (lv_at hl 2 rfl) ?_
    refine lv_iconst (v := (0 : Int32)) hx hb dX4_picture_15 (by decide) ?_
    refine lv_bipush (v := (100 : Int32)) hx hb dX4_picture_16 (by decide) ?_
    obtain ⟨Pc_2, hc, hq⟩ := hq
    refine vp_callSi (W.runS (As := [.int p2, .int (0 : Int32), .int (100 : Int32)]) (rest := []) ⟨hx, hb, hml, hown, hts⟩ (tX4_in l Pc_2 p2 (0 : Int32) (100 : Int32) hc) (va_cwS 3 hts gX4_picture_X4_in rfl rfl rfl (by decide +kernel) ⟨Nat.le_of_ble_eq_true rfl, Nat.le_of_ble_eq_true rfl⟩) preEq rfl rfl hl.1 rfl (lv_room (Nat.le_of_ble_eq_true rfl)) dX4_picture_18 ⟨Nat.le_of_ble_eq_true rfl, Nat.le_of_ble_eq_true rfl⟩) (fun rc_2 hp => ?_)
    have hq := hq rc_2 hp
    refine lv_if_eq (tgt := 43) hx hb dX4_picture_21 (by decide) (fun hc => ?_) (fun hc => ?_)
    · have hq := hq.1 hc
      refine lv_iconst (v := (-1 : Int32)) hx hb dX4_picture_43 (by decide) ?_
      exact w_iret (post := fun r (u : (Nat → Int32) × (Nat → Nat → Int32)) => post r u.1 u.2) (wf := fun u : (Nat → Int32) × (Nat → Nat → Int32) => wd4 cI h ad u.1 u.2) (u := (va_up I 19 (0 : Int32), R)) hx hb hr hK hP hD hS hq dX4_picture_44 hlocks
    · have hq := hq.2 hc
      refine lv_iload_n hx hb dX4_picture_24 rfl (lv_at hl 3 rfl) ?_
      refine lv_iconst (v := (1 : Int32)) hx hb dX4_picture_25 (by decide) ?_
      refine lv_bipush (v := (12 : Int32)) hx hb dX4_picture_26 (by decide) ?_
      obtain ⟨Pc_3, hc, hq⟩ := hq
      refine vp_callSi (W.runS (As := [.int p3, .int (1 : Int32), .int (12 : Int32)]) (rest := []) ⟨hx, hb, hml, hown, hts⟩ (tX4_in l Pc_3 p3 (1 : Int32) (12 : Int32) hc) (va_cwS 3 hts gX4_picture_X4_in rfl rfl rfl (by decide +kernel) ⟨Nat.le_of_ble_eq_true rfl, Nat.le_of_ble_eq_true rfl⟩) preEq rfl rfl hl.1 rfl (lv_room (Nat.le_of_ble_eq_true rfl)) dX4_picture_28 ⟨Nat.le_of_ble_eq_true rfl, Nat.le_of_ble_eq_true rfl⟩) (fun rc_3 hp => ?_)
      have hq := hq rc_3 hp
      refine lv_if_eq (tgt := 43) hx hb dX4_picture_31 (by decide) (fun hc => ?_) (fun hc => ?_)
      · have hq := hq.1 hc
        refine lv_iconst (v := (-1 : Int32)) hx hb dX4_picture_43 (by decide) ?_
        exact w_iret (post := fun r (u : (Nat → Int32) × (Nat → Nat → Int32)) => post r u.1 u.2) (wf := fun u : (Nat → Int32) × (Nat → Nat → Int32) => wd4 cI h ad u.1 u.2) (u := (va_up I 19 (0 : Int32), R)) hx hb hr hK hP hD hS hq dX4_picture_44 hlocks
      · have hq := hq.2 hc
        refine lv_aload_n hx hb dX4_picture_34 rfl (lv_at hl 0 rfl) ?_
        refine va_get (D := (dC, dI)) (ci := 4) (v := .int (I 11)) (C := RX4) (T := TX4) (N := 27) hx hb hts nX4_picture_X4 hown hK hP 0 rfl rfl 11 (by decide) (hts _ mX4_picture_f74) (fun _ h9 => h9) rfl dX4_picture_35 ?_
        refine lv_bipush (v := (14 : Int32)) hx hb dX4_picture_38 (by decide) ?_
        refine lv_icmp_ne (tgt := 45) hx hb dX4_picture_40 (by decide) (fun hc => ?_) (fun hc => ?_)
        · have hq := hq.1 hc
          refine lv_aload_n hx hb dX4_picture_45 rfl (lv_at hl 0 rfl) ?_
          refine va_get (D := (dC, dI)) (ci := 4) (v := .ref (ad 3)) (C := RX4) (T := TX4) (N := 27) hx hb hts nX4_picture_X4 hown hK hP 0 rfl rfl 3 (by decide) (hts _ mX4_picture_f16) (fun _ h9 => h9) rfl dX4_picture_46 ?_
          refine lv_aload_n hx hb dX4_picture_49 rfl (lv_at hl 0 rfl) ?_
          refine va_get (D := (dC, dI)) (ci := 4) (v := .int (I 11)) (C := RX4) (T := TX4) (N := 27) hx hb hts nX4_picture_X4 hown hK hP 0 rfl rfl 11 (by decide) (hts _ mX4_picture_f74) (fun _ h9 => h9) rfl dX4_picture_50 ?_
          refine lv_iload_n hx hb dX4_picture_53 rfl (lv_at hl 1 rfl) ?_
          obtain ⟨hi_4, hq⟩ := hq
          refine va_iast (f := R 3) hx hb hK hP hD hS 3 0 rfl rfl hi_4 dX4_picture_54 (fun H locs hP hD hS => ?_)
          rw [wd4_R3] at hP hD
          refine lv_aload_n hx hb dX4_picture_55 rfl (lv_at hl 0 rfl) ?_
          refine va_get (D := (dC, dI)) (ci := 4) (v := .ref (ad 4)) (C := RX4) (T := TX4) (N := 27) hx hb hts nX4_picture_X4 hown hK hP 0 rfl rfl 4 (by decide) (hts _ mX4_picture_f19) (fun _ h9 => h9) rfl dX4_picture_56 ?_
          refine lv_aload_n hx hb dX4_picture_59 rfl (lv_at hl 0 rfl) ?_
          refine va_get (D := (dC, dI)) (ci := 4) (v := .int (I 11)) (C := RX4) (T := TX4) (N := 27) hx hb hts nX4_picture_X4 hown hK hP 0 rfl rfl 11 (by decide) (hts _ mX4_picture_f74) (fun _ h9 => h9) rfl dX4_picture_60 ?_
          refine lv_iload_n hx hb dX4_picture_63 rfl (lv_at hl 2 rfl) ?_
          refine va_iast (f := R 4) hx hb hK hP hD hS 4 0 rfl rfl hi_4 dX4_picture_64 (fun H locs hP hD hS => ?_)
          rw [wd4_R4] at hP hD
          refine lv_aload_n hx hb dX4_picture_65 rfl (lv_at hl 0 rfl) ?_
          refine va_get (D := (dC, dI)) (ci := 4) (v := .ref (ad 5)) (C := RX4) (T := TX4) (N := 27) hx hb hts nX4_picture_X4 hown hK hP 0 rfl rfl 5 (by decide) (hts _ mX4_picture_f22) (fun _ h9 => h9) rfl dX4_picture_66 ?_
          refine lv_aload_n hx hb dX4_picture_69 rfl (lv_at hl 0 rfl) ?_
          refine va_get (D := (dC, dI)) (ci := 4) (v := .int (I 11)) (C := RX4) (T := TX4) (N := 27) hx hb hts nX4_picture_X4 hown hK hP 0 rfl rfl 11 (by decide) (hts _ mX4_picture_f74) (fun _ h9 => h9) rfl dX4_picture_70 ?_
          refine lv_iload_n hx hb dX4_picture_73 rfl (lv_at hl 3 rfl) ?_
          refine va_iast (f := R 5) hx hb hK hP hD hS 5 0 rfl rfl hi_4 dX4_picture_74 (fun H locs hP hD hS => ?_)
          rw [wd4_R5] at hP hD
          refine lv_aload_n hx hb dX4_picture_75 rfl (lv_at hl 0 rfl) ?_
          refine va_get (D := (dC, dI)) (ci := 4) (v := .ref (ad 6)) (C := RX4) (T := TX4) (N := 27) hx hb hts nX4_picture_X4 hown hK hP 0 rfl rfl 6 (by decide) (hts _ mX4_picture_f25) (fun _ h9 => h9) rfl dX4_picture_76 ?_
          refine lv_aload_n hx hb dX4_picture_79 rfl (lv_at hl 0 rfl) ?_
          refine va_get (D := (dC, dI)) (ci := 4) (v := .int (I 11)) (C := RX4) (T := TX4) (N := 27) hx hb hts nX4_picture_X4 hown hK hP 0 rfl rfl 11 (by decide) (hts _ mX4_picture_f74) (fun _ h9 => h9) rfl dX4_picture_80 ?_
          refine lv_iconst (v := (0 : Int32)) hx hb dX4_picture_83 (by decide) ?_
          refine va_iast (f := R 6) hx hb hK hP hD hS 6 0 rfl rfl hi_4 dX4_picture_84 (fun H locs hP hD hS => ?_)
          rw [wd4_R6] at hP hD
          refine lv_aload_n hx hb dX4_picture_85 rfl (lv_at hl 0 rfl) ?_
          refine lv_dup hx hb dX4_picture_86 rfl ?_
          refine va_get (D := (dC, dI)) (ci := 4) (v := .int (I 11)) (C := RX4) (T := TX4) (N := 27) hx hb hts nX4_picture_X4 hown hK hP 0 rfl rfl 11 (by decide) (hts _ mX4_picture_f74) (fun _ h9 => h9) rfl dX4_picture_87 ?_
          refine lv_iconst (v := (1 : Int32)) hx hb dX4_picture_90 (by decide) ?_
          refine lv_iadd hx hb dX4_picture_91 ?_
          refine va_put (D := (dC, dI)) (ci := 4) (v := .int ((I 11) + (1 : Int32))) (ty := .int) (C := RX4) (T := TX4) (N := 27) hx hb hts nX4_picture_X4 tyX4 tyX4_ok nmX4 hown hK hP hD hS 0 rfl rfl 11 (by decide) (hts _ mX4_picture_f74) (fun _ h9 => h9) rfl (by decide +kernel) rfl rfl (Nat.le_of_ble_eq_true rfl) dX4_picture_92 (fun H locs hP hD hS => ?_)
          rw [wd4_I11] at hP hD
          refine lv_aload_n hx hb dX4_picture_95 rfl (lv_at hl 0 rfl) ?_
          refine va_get (D := (dC, dI)) (ci := 4) (v := .int ((I 11) + (1 : Int32))) (C := RX4) (T := TX4) (N := 27) hx hb hts nX4_picture_X4 hown hK hP 0 rfl rfl 11 (by decide) (hts _ mX4_picture_f74) (fun _ h9 => h9) rfl dX4_picture_96 ?_
          refine lv_iconst (v := (1 : Int32)) hx hb dX4_picture_99 (by decide) ?_
          refine lv_isub hx hb dX4_picture_100 ?_
          exact w_iret (post := fun r (u : (Nat → Int32) × (Nat → Nat → Int32)) => post r u.1 u.2) (wf := fun u : (Nat → Int32) × (Nat → Nat → Int32) => wd4 cI h ad u.1 u.2) (u := (va_up (va_up I 19 (0 : Int32)) 11 ((I 11) + (1 : Int32)), va_up (va_up (va_up (va_up R 3 (upd (R 3) (I 11).toNatClampNeg p1)) 4 (upd (R 4) (I 11).toNatClampNeg p2)) 5 (upd (R 5) (I 11).toNatClampNeg p3)) 6 (upd (R 6) (I 11).toNatClampNeg (0 : Int32)))) hx hb hr hK hP hD hS hq dX4_picture_101 hlocks
        · have hq := hq.2 hc
          refine lv_iconst (v := (-1 : Int32)) hx hb dX4_picture_43 (by decide) ?_
          exact w_iret (post := fun r (u : (Nat → Int32) × (Nat → Nat → Int32)) => post r u.1 u.2) (wf := fun u : (Nat → Int32) × (Nat → Nat → Int32) => wd4 cI h ad u.1 u.2) (u := (va_up I 19 (0 : Int32), R)) hx hb hr hK hP hD hS hq dX4_picture_44 hlocks
def zX4_proof (post : Int32 → (Nat → Int32) → (Nat → Nat → Int32) → Prop) (p1 : Int32) (p2 : Int32) (X24 : Int32 → Int32 → (Nat → Int32) → (Nat → Nat → Int32) → Prop) : Prop :=
  (∀ (x3 : Int32) (x4 : Int32) (I : Nat → Int32) (R : Nat → Nat → Int32), ((((I 11) ≤ x4) → (post (-1 : Int32) I R)) ∧ ((¬ (I 11) ≤ x4) → ((((((I 16) >>> (x4 &&& 31)) &&& (1 : Int32)) = 0) → (X24 x3 (x4 + (1 : Int32)) I R)) ∧ ((¬ (((I 16) >>> (x4 &&& 31)) &&& (1 : Int32)) = 0) → (∃ Pc_2 : Int32 → (Nat → Int32) → (Nat → Nat → Int32) → Prop, qX4_seenIn Pc_2 x4 I R ∧ (∀ (rc_2 : Int32) (Ic_2 : Nat → Int32) (Rc_2 : Nat → Nat → Int32), Pc_2 rc_2 Ic_2 Rc_2 → (((¬ ((rc_2 >>> (p1 &&& 31)) &&& (1 : Int32)) = 0) → (((¬ x3 = 0) → (X24 (x3 + (-1 : Int32)) (x4 + (1 : Int32)) Ic_2 Rc_2)) ∧ ((x3 = 0) → (post x4 Ic_2 Rc_2)))) ∧ ((((rc_2 >>> (p1 &&& 31)) &&& (1 : Int32)) = 0) → (X24 x3 (x4 + (1 : Int32)) Ic_2 Rc_2))))))))) → X24 x3 x4 I R)
def qX4_proof_24 (post : Int32 → (Nat → Int32) → (Nat → Nat → Int32) → Prop) (p1 : Int32) (p2 : Int32) (x3 : Int32) (x4 : Int32) (I : Nat → Int32) (R : Nat → Nat → Int32) : Prop := ∀ (X24 : Int32 → Int32 → (Nat → Int32) → (Nat → Nat → Int32) → Prop), zX4_proof post p1 p2 X24 → X24 x3 x4 I R
theorem kX4_proof_24 {post : Int32 → (Nat → Int32) → (Nat → Nat → Int32) → Prop} {p1 : Int32} {p2 : Int32} {x3 : Int32} {x4 : Int32} {I : Nat → Int32} {R : Nat → Nat → Int32} (h : (((I 11) ≤ x4) → (post (-1 : Int32) I R)) ∧ ((¬ (I 11) ≤ x4) → ((((((I 16) >>> (x4 &&& 31)) &&& (1 : Int32)) = 0) → (qX4_proof_24 post p1 p2 x3 (x4 + (1 : Int32)) I R)) ∧ ((¬ (((I 16) >>> (x4 &&& 31)) &&& (1 : Int32)) = 0) → (∃ Pc_2 : Int32 → (Nat → Int32) → (Nat → Nat → Int32) → Prop, qX4_seenIn Pc_2 x4 I R ∧ (∀ (rc_2 : Int32) (Ic_2 : Nat → Int32) (Rc_2 : Nat → Nat → Int32), Pc_2 rc_2 Ic_2 Rc_2 → (((¬ ((rc_2 >>> (p1 &&& 31)) &&& (1 : Int32)) = 0) → (((¬ x3 = 0) → (qX4_proof_24 post p1 p2 (x3 + (-1 : Int32)) (x4 + (1 : Int32)) Ic_2 Rc_2)) ∧ ((x3 = 0) → (post x4 Ic_2 Rc_2)))) ∧ ((((rc_2 >>> (p1 &&& 31)) &&& (1 : Int32)) = 0) → (qX4_proof_24 post p1 p2 x3 (x4 + (1 : Int32)) Ic_2 Rc_2))))))))) : qX4_proof_24 post p1 p2 x3 x4 I R := by
  intro Z24 hcl
  refine hcl x3 x4 I R ?_
  refine ⟨fun c => ?_, fun c => ?_⟩
  · have h := h.1 c
    exact h
  · have h := h.2 c
    refine ⟨fun c => ?_, fun c => ?_⟩
    · have h := h.1 c
      exact h _ hcl
    · have h := h.2 c
      obtain ⟨P, h1, h2⟩ := h
      refine ⟨P, h1, fun b0 b1 b2 hp => ?_⟩
      have h := h2 b0 b1 b2 hp
      refine ⟨fun c => ?_, fun c => ?_⟩
      · have h := h.1 c
        refine ⟨fun c => ?_, fun c => ?_⟩
        · have h := h.1 c
          exact h _ hcl
        · have h := h.2 c
          exact h
      · have h := h.2 c
        exact h _ hcl
def qX4_proof (post : Int32 → (Nat → Int32) → (Nat → Nat → Int32) → Prop) (p1 : Int32) (p2 : Int32) (I : Nat → Int32) (R : Nat → Nat → Int32) : Prop := ∃ Pc_1 : Int32 → Prop, qX4_isChild Pc_1 p1 (va_up I 19 (0 : Int32)) R ∧ (∀ (rc_1 : Int32), Pc_1 rc_1 → (((rc_1 = 0) → (post (-1 : Int32) (va_up I 19 (0 : Int32)) R)) ∧ ((¬ rc_1 = 0) → (((0 ≤ p2) → (qX4_proof_24 post p1 p2 p2 (0 : Int32) (va_up I 19 (0 : Int32)) R)) ∧ ((¬ 0 ≤ p2) → (post (-1 : Int32) (va_up I 19 (0 : Int32)) R))))))
theorem mX4_proof_f71 : Cond.fieldLink RX4 71 "YearBookModel" "thrown" "I" ∈ wsX4_proof := by decide +kernel
theorem nX4_proof_X4 : ∀ w ∈ u_ws RX4 TX4 27, w ∈ wsX4_proof := by decide +kernel
theorem mX4_proof_f74 : Cond.fieldLink RX4 74 "YearBookModel" "pictures" "I" ∈ wsX4_proof := by decide +kernel
theorem mX4_proof_f108 : Cond.fieldLink RX4 108 "YearBookModel" "choice" "I" ∈ wsX4_proof := by decide +kernel
set_option maxHeartbeats 4000000 in
set_option maxRecDepth 100000 in
theorem tX4_proof (l : Launch) (dC : Nat → ClassId) (dI : Nat → Nat → Nat) (cI : ClassId) (h : Nat) (ad : Nat → Nat)  (sz : Nat) (post : Int32 → (Nat → Int32) → (Nat → Nat → Int32) → Prop) (p1 : Int32) (p2 : Int32) (I : Nat → Int32) (R : Nat → Nat → Int32) (hq : qX4_proof post p1 p2 I R) : Met l yX4_proof wsX4_proof ({ frames := 4, cells := 0, slots := 0, locals := 97 } : Room) (va_Pc [.ref h, .int p1, .int p2] (wPre (dC, dI) vwCl [(cI, .int)] (wd4 cI h ad I R) sz)) (va_Qi (fun r (u : (Nat → Int32) × (Nat → Nat → Int32)) => post r u.1 u.2) (wAt (dC, dI) vwCl [(cI, .int)] (va_A (wd4 cI h ad I R) sz) (fun u : (Nat → Int32) × (Nat → Nat → Int32) => wd4 cI h ad u.1 u.2)) (va_A (wd4 cI h ad I R) sz)) 0 0 (va_A (wd4 cI h ad I R) sz) := by
  unfold qX4_proof at hq
  refine Met.ofW (cc := cX4_proof) (maxL := 5) (ret := (some .int)) (by decide) rfl ?_
  intro p e s m args below meth c s₁ B hml hv
  obtain ⟨rfl, hsz, hP, hK, hD0⟩ := hv
  have hx := B.exec
  have hb := B.bytes
  have hr := B.returns
  have hts := atoms_spec (ws := wsX4_proof) B.pre
  have hown : s.vm.findClass RX4 = some m.cls := findClass_of_methodNamed B.named
  have hlocks := B.notSynchronized
  subst hsz
  have hD := hD0.self (sz := s.heap.size)
  generalize hAe : va_A (wd4 cI h ad I R) s.heap.size = A at hD ⊢
  have hA : ∀ q : Nat, s.heap.size ≤ q → A q := fun q h => by rw [← hAe]; exact Or.inr h
  have hS : va_S A s.heap s.heap [] := va_S.rf
  have hZ : zX4_proof post p1 p2
      (fun (x3 : Int32) (x4 : Int32) (I : Nat → Int32) (R : Nat → Nat → Int32) => ∀ (H : Heap) (locs : List Loc) (ls : Array Slot), va_P (dC, dI) vwCl (wd4 cI h ad I R) H → va_D A (wd4 cI h ad I R) → va_S A s.heap H locs → lv_has ls 5 [(0, .ref h), (1, .int p1), (3, .int x3), (4, .int x4)] → W p l e (headSpec wsX4_proof ({ frames := 4, cells := 0, slots := 0, locals := 97 } : Room)).room s m ([.ref h, .int p1, .int p2] : List Value).toArray below meth c H locs 0 0 (MQ below (va_Qi (fun r (u : (Nat → Int32) × (Nat → Nat → Int32)) => post r u.1 u.2) (wAt (dC, dI) vwCl [(cI, .int)] A (fun u : (Nat → Int32) × (Nat → Nat → Int32) => wd4 cI h ad u.1 u.2)) A) ([.ref h, .int p1, .int p2] : List Value).toArray s 0 0 A) (F0 m 24 ls [])) := by
    unfold zX4_proof
    intro x3 x4 I R hq H locs ls hP hD hS hl
    refine lv_iload hx hb dX4_proof_24 (lv_at hl 3 rfl) ?_
    refine lv_aload_n hx hb dX4_proof_26 rfl (lv_at hl 0 rfl) ?_
    refine va_get (D := (dC, dI)) (ci := 4) (v := .int (I 11)) (C := RX4) (T := TX4) (N := 27) hx hb hts nX4_proof_X4 hown hK hP 0 rfl rfl 11 (by decide) (hts _ mX4_proof_f74) (fun _ h9 => h9) rfl dX4_proof_27 ?_
    refine lv_icmp_ge (tgt := 77) hx hb dX4_proof_30 (by decide) (fun hc => ?_) (fun hc => ?_)
    · have hq := hq.1 hc
      refine lv_iconst (v := (-1 : Int32)) hx hb dX4_proof_77 (by decide) ?_
      exact w_iret (post := fun r (u : (Nat → Int32) × (Nat → Nat → Int32)) => post r u.1 u.2) (wf := fun u : (Nat → Int32) × (Nat → Nat → Int32) => wd4 cI h ad u.1 u.2) (u := (I, R)) hx hb hr hK hP hD hS hq dX4_proof_78 hlocks
    · have hq := hq.2 hc
      refine lv_aload_n hx hb dX4_proof_33 rfl (lv_at hl 0 rfl) ?_
      refine va_get (D := (dC, dI)) (ci := 4) (v := .int (I 16)) (C := RX4) (T := TX4) (N := 27) hx hb hts nX4_proof_X4 hown hK hP 0 rfl rfl 16 (by decide) (hts _ mX4_proof_f108) (fun _ h9 => h9) rfl dX4_proof_34 ?_
      refine lv_iload hx hb dX4_proof_37 (lv_at hl 3 rfl) ?_
      refine lv_ishr hx hb dX4_proof_39 ?_
      refine lv_iconst (v := (1 : Int32)) hx hb dX4_proof_40 (by decide) ?_
      refine lv_iand hx hb dX4_proof_41 ?_
      refine lv_if_eq (tgt := 71) hx hb dX4_proof_42 (by decide) (fun hc => ?_) (fun hc => ?_)
      · have hq := hq.1 hc
        refine lv_iinc (v := x4 + (1 : Int32)) (lv' := [(4, .int (x4 + (1 : Int32))), (0, .ref h), (1, .int p1), (3, .int x3)]) hx hb dX4_proof_71 hl (k := 3) rfl rfl (by decide) rfl (fun ls hl => ?_)
        refine lv_goto (tgt := 24) hx hb dX4_proof_74 (by decide) ?_
        exact hq _ _ ls hP hD hS (lv_sub hl [1, 2, 3, 0] rfl)
      · have hq := hq.2 hc
        refine lv_aload_n hx hb dX4_proof_45 rfl (lv_at hl 0 rfl) ?_
        refine lv_iload hx hb dX4_proof_46 (lv_at hl 3 rfl) ?_
        obtain ⟨Pc_2, hc, hq⟩ := hq
        refine w_calli (wf := fun u : (Nat → Int32) × (Nat → Nat → Int32) => wd4 cI h ad u.1 u.2) (va_runV (As := [.int x4]) (rest := []) ⟨hx, hb, hml, hown, hts⟩ (tX4_seenIn l dC dI cI h ad _ Pc_2 x4 I R hc) (cwV 1 hts gX4_proof_X4_seenIn rfl rfl rfl (by decide +kernel) ⟨Nat.le_of_ble_eq_true rfl, Nat.le_of_ble_eq_true rfl⟩) (wPreV hK hP hD (ci := 4) (q0 := 0) rfl rfl) rfl rfl hl.1 rfl (lv_room (Nat.le_of_ble_eq_true rfl)) dX4_proof_48 ⟨Nat.le_of_ble_eq_true rfl, Nat.le_of_ble_eq_true rfl⟩) hD hS hA (fun rc_2 u H locs hp hP hD hS => ?_)
        obtain ⟨Ic_2, Rc_2⟩ := u
        have hq := hq rc_2 Ic_2 Rc_2 hp
        have hP : va_P (dC, dI) vwCl (wd4 cI h ad Ic_2 Rc_2) H := hP
        have hD : va_D A (wd4 cI h ad Ic_2 Rc_2) := hD
        refine lv_iload_n hx hb dX4_proof_51 rfl (lv_at hl 1 rfl) ?_
        refine lv_ishr hx hb dX4_proof_52 ?_
        refine lv_iconst (v := (1 : Int32)) hx hb dX4_proof_53 (by decide) ?_
        refine lv_iand hx hb dX4_proof_54 ?_
        refine lv_if_ne (tgt := 61) hx hb dX4_proof_55 (by decide) (fun hc => ?_) (fun hc => ?_)
        · have hq := hq.1 hc
          refine lv_iload_n hx hb dX4_proof_61 rfl (lv_at hl 2 rfl) ?_
          refine lv_if_ne (tgt := 68) hx hb dX4_proof_62 (by decide) (fun hc => ?_) (fun hc => ?_)
          · have hq := hq.1 hc
            refine lv_iinc (v := x3 + (-1 : Int32)) (lv' := [(3, .int (x3 + (-1 : Int32))), (0, .ref h), (1, .int p1), (4, .int x4)]) hx hb dX4_proof_68 hl (k := 2) rfl rfl (by decide) rfl (fun ls hl => ?_)
            refine lv_iinc (v := x4 + (1 : Int32)) (lv' := [(4, .int (x4 + (1 : Int32))), (3, .int (x3 + (-1 : Int32))), (0, .ref h), (1, .int p1)]) hx hb dX4_proof_71 hl (k := 3) rfl rfl (by decide) rfl (fun ls hl => ?_)
            refine lv_goto (tgt := 24) hx hb dX4_proof_74 (by decide) ?_
            exact hq _ _ ls hP hD hS (lv_sub hl [2, 3, 1, 0] rfl)
          · have hq := hq.2 hc
            refine lv_iload hx hb dX4_proof_65 (lv_at hl 3 rfl) ?_
            exact w_iret (post := fun r (u : (Nat → Int32) × (Nat → Nat → Int32)) => post r u.1 u.2) (wf := fun u : (Nat → Int32) × (Nat → Nat → Int32) => wd4 cI h ad u.1 u.2) (u := (Ic_2, Rc_2)) hx hb hr hK hP hD hS hq dX4_proof_67 hlocks
        · have hq := hq.2 hc
          refine lv_goto (tgt := 71) hx hb dX4_proof_58 (by decide) ?_
          refine lv_iinc (v := x4 + (1 : Int32)) (lv' := [(4, .int (x4 + (1 : Int32))), (0, .ref h), (1, .int p1), (3, .int x3)]) hx hb dX4_proof_71 hl (k := 3) rfl rfl (by decide) rfl (fun ls hl => ?_)
          refine lv_goto (tgt := 24) hx hb dX4_proof_74 (by decide) ?_
          exact hq _ _ ls hP hD hS (lv_sub hl [1, 2, 3, 0] rfl)
  have hl := lv_entry ([.ref h, .int p1, .int p2]) (n := 5) (Nat.le_of_ble_eq_true rfl)
  rw [lg_entry_eq]
  generalize (lg_sl ([.ref h, .int p1, .int p2]) ++ List.replicate (5 - (lg_sl ([.ref h, .int p1, .int p2])).length) Slot.unset).toArray = ls at hl ⊢
  have hl : lv_has ls 5 [(0, .ref h), (1, .int p1), (2, .int p2)] := hl
  refine lv_aload_n hx hb dX4_proof_0 rfl (lv_at hl 0 rfl) ?_
  refine lv_iconst (v := (0 : Int32)) hx hb dX4_proof_1 (by decide) ?_
  refine va_put (D := (dC, dI)) (ci := 4) (v := .int (0 : Int32)) (ty := .int) (C := RX4) (T := TX4) (N := 27) hx hb hts nX4_proof_X4 tyX4 tyX4_ok nmX4 hown hK hP hD hS 0 rfl rfl 19 (by decide) (hts _ mX4_proof_f71) (fun _ h9 => h9) rfl (by decide +kernel) rfl rfl (Nat.le_of_ble_eq_true rfl) dX4_proof_2 (fun H locs hP hD hS => ?_)
  rw [wd4_I19] at hP hD
  refine lv_aload_n hx hb dX4_proof_5 rfl (lv_at hl 0 rfl) ?_
  refine lv_iload_n hx hb dX4_proof_6 rfl (lv_at hl 1 rfl) ?_
  obtain ⟨Pc_1, hc, hq⟩ := hq
  refine w_calli (wf := fun _ : Unit => wd4 cI h ad (va_up I 19 (0 : Int32)) R) (va_runV (As := [.int p1]) (rest := []) ⟨hx, hb, hml, hown, hts⟩ (tX4_isChild l dC dI cI h ad _ Pc_1 p1 (va_up I 19 (0 : Int32)) R hc) (cwV 1 hts gX4_proof_X4_isChild rfl rfl rfl (by decide +kernel) ⟨Nat.le_of_ble_eq_true rfl, Nat.le_of_ble_eq_true rfl⟩) (wPreV hK hP hD (ci := 4) (q0 := 0) rfl rfl) rfl rfl hl.1 rfl (lv_room (Nat.le_of_ble_eq_true rfl)) dX4_proof_7 ⟨Nat.le_of_ble_eq_true rfl, Nat.le_of_ble_eq_true rfl⟩) hD hS hA (fun rc_1 u H locs hp hP hD hS => ?_)
  have hq := hq rc_1 hp
  have hP : va_P (dC, dI) vwCl (wd4 cI h ad (va_up I 19 (0 : Int32)) R) H := hP
  have hD : va_D A (wd4 cI h ad (va_up I 19 (0 : Int32)) R) := hD
  refine lv_if_eq (tgt := 17) hx hb dX4_proof_10 (by decide) (fun hc => ?_) (fun hc => ?_)
  · have hq := hq.1 hc
    refine lv_iconst (v := (-1 : Int32)) hx hb dX4_proof_17 (by decide) ?_
    exact w_iret (post := fun r (u : (Nat → Int32) × (Nat → Nat → Int32)) => post r u.1 u.2) (wf := fun u : (Nat → Int32) × (Nat → Nat → Int32) => wd4 cI h ad u.1 u.2) (u := (va_up I 19 (0 : Int32), R)) hx hb hr hK hP hD hS hq dX4_proof_18 hlocks
  · have hq := hq.2 hc
    refine lv_iload_n hx hb dX4_proof_13 rfl (lv_at hl 2 rfl) ?_
    refine lv_if_ge (tgt := 19) hx hb dX4_proof_14 (by decide) (fun hc => ?_) (fun hc => ?_)
    · have hq := hq.1 hc
      refine lv_iload_n hx hb dX4_proof_19 rfl (lv_at hl 2 rfl) ?_
      refine lv_istore_n (lv' := [(3, .int p2), (0, .ref h), (1, .int p1), (2, .int p2)]) hx hb dX4_proof_20 rfl hl (by decide) rfl (fun ls hl => ?_)
      refine lv_iconst (v := (0 : Int32)) hx hb dX4_proof_21 (by decide) ?_
      refine lv_istore (lv' := [(4, .int (0 : Int32)), (3, .int p2), (0, .ref h), (1, .int p1), (2, .int p2)]) hx hb dX4_proof_22 hl (by decide) rfl (fun ls hl => ?_)
      exact hq _ hZ _ _ ls hP hD hS (lv_sub hl [2, 3, 1, 0] rfl)
    · have hq := hq.2 hc
      refine lv_iconst (v := (-1 : Int32)) hx hb dX4_proof_17 (by decide) ?_
      exact w_iret (post := fun r (u : (Nat → Int32) × (Nat → Nat → Int32)) => post r u.1 u.2) (wf := fun u : (Nat → Int32) × (Nat → Nat → Int32) => wd4 cI h ad u.1 u.2) (u := (va_up I 19 (0 : Int32), R)) hx hb hr hK hP hD hS hq dX4_proof_18 hlocks
def qX4_seen (post : Int32 → (Nat → Int32) → (Nat → Nat → Int32) → Prop) (p1 : Int32) (I : Nat → Int32) (R : Nat → Nat → Int32) : Prop := ∃ Pc_1 : Int32 → Prop, qX4_isChild Pc_1 p1 (va_up I 19 (0 : Int32)) R ∧ (∀ (rc_1 : Int32), Pc_1 rc_1 → (((rc_1 = 0) → (post (-1 : Int32) (va_up I 19 (0 : Int32)) R)) ∧ ((¬ rc_1 = 0) → (∃ Pc_2 : Int32 → (Nat → Int32) → (Nat → Nat → Int32) → Prop, qX4_timesIn Pc_2 (I 16) p1 (va_up I 19 (0 : Int32)) R ∧ (∀ (rc_2 : Int32) (Ic_2 : Nat → Int32) (Rc_2 : Nat → Nat → Int32), Pc_2 rc_2 Ic_2 Rc_2 → (post rc_2 Ic_2 Rc_2))))))
theorem mX4_seen_f71 : Cond.fieldLink RX4 71 "YearBookModel" "thrown" "I" ∈ wsX4_seen := by decide +kernel
theorem nX4_seen_X4 : ∀ w ∈ u_ws RX4 TX4 27, w ∈ wsX4_seen := by decide +kernel
theorem mX4_seen_f108 : Cond.fieldLink RX4 108 "YearBookModel" "choice" "I" ∈ wsX4_seen := by decide +kernel
set_option maxHeartbeats 4000000 in
set_option maxRecDepth 100000 in
theorem tX4_seen (l : Launch) (dC : Nat → ClassId) (dI : Nat → Nat → Nat) (cI : ClassId) (h : Nat) (ad : Nat → Nat)  (sz : Nat) (post : Int32 → (Nat → Int32) → (Nat → Nat → Int32) → Prop) (p1 : Int32) (I : Nat → Int32) (R : Nat → Nat → Int32) (hq : qX4_seen post p1 I R) : Met l yX4_seen wsX4_seen ({ frames := 5, cells := 0, slots := 0, locals := 121 } : Room) (va_Pc [.ref h, .int p1] (wPre (dC, dI) vwCl [(cI, .int)] (wd4 cI h ad I R) sz)) (va_Qi (fun r (u : (Nat → Int32) × (Nat → Nat → Int32)) => post r u.1 u.2) (wAt (dC, dI) vwCl [(cI, .int)] (va_A (wd4 cI h ad I R) sz) (fun u : (Nat → Int32) × (Nat → Nat → Int32) => wd4 cI h ad u.1 u.2)) (va_A (wd4 cI h ad I R) sz)) 0 0 (va_A (wd4 cI h ad I R) sz) := by
  unfold qX4_seen at hq
  refine Met.ofW (cc := cX4_seen) (maxL := 2) (ret := (some .int)) (by decide) rfl ?_
  intro p e s m args below meth c s₁ B hml hv
  obtain ⟨rfl, hsz, hP, hK, hD0⟩ := hv
  have hx := B.exec
  have hb := B.bytes
  have hr := B.returns
  have hts := atoms_spec (ws := wsX4_seen) B.pre
  have hown : s.vm.findClass RX4 = some m.cls := findClass_of_methodNamed B.named
  have hlocks := B.notSynchronized
  subst hsz
  have hD := hD0.self (sz := s.heap.size)
  generalize hAe : va_A (wd4 cI h ad I R) s.heap.size = A at hD ⊢
  have hA : ∀ q : Nat, s.heap.size ≤ q → A q := fun q h => by rw [← hAe]; exact Or.inr h
  have hS : va_S A s.heap s.heap [] := va_S.rf
  have hl := lv_entry ([.ref h, .int p1]) (n := 2) (Nat.le_of_ble_eq_true rfl)
  rw [lg_entry_eq]
  generalize (lg_sl ([.ref h, .int p1]) ++ List.replicate (2 - (lg_sl ([.ref h, .int p1])).length) Slot.unset).toArray = ls at hl ⊢
  have hl : lv_has ls 2 [(0, .ref h), (1, .int p1)] := hl
  refine lv_aload_n hx hb dX4_seen_0 rfl (lv_at hl 0 rfl) ?_
  refine lv_iconst (v := (0 : Int32)) hx hb dX4_seen_1 (by decide) ?_
  refine va_put (D := (dC, dI)) (ci := 4) (v := .int (0 : Int32)) (ty := .int) (C := RX4) (T := TX4) (N := 27) hx hb hts nX4_seen_X4 tyX4 tyX4_ok nmX4 hown hK hP hD hS 0 rfl rfl 19 (by decide) (hts _ mX4_seen_f71) (fun _ h9 => h9) rfl (by decide +kernel) rfl rfl (Nat.le_of_ble_eq_true rfl) dX4_seen_2 (fun H locs hP hD hS => ?_)
  rw [wd4_I19] at hP hD
  refine lv_aload_n hx hb dX4_seen_5 rfl (lv_at hl 0 rfl) ?_
  refine lv_iload_n hx hb dX4_seen_6 rfl (lv_at hl 1 rfl) ?_
  obtain ⟨Pc_1, hc, hq⟩ := hq
  refine w_calli (wf := fun _ : Unit => wd4 cI h ad (va_up I 19 (0 : Int32)) R) (va_runV (As := [.int p1]) (rest := []) ⟨hx, hb, hml, hown, hts⟩ (tX4_isChild l dC dI cI h ad _ Pc_1 p1 (va_up I 19 (0 : Int32)) R hc) (cwV 1 hts gX4_seen_X4_isChild rfl rfl rfl (by decide +kernel) ⟨Nat.le_of_ble_eq_true rfl, Nat.le_of_ble_eq_true rfl⟩) (wPreV hK hP hD (ci := 4) (q0 := 0) rfl rfl) rfl rfl hl.1 rfl (lv_room (Nat.le_of_ble_eq_true rfl)) dX4_seen_7 ⟨Nat.le_of_ble_eq_true rfl, Nat.le_of_ble_eq_true rfl⟩) hD hS hA (fun rc_1 u H locs hp hP hD hS => ?_)
  have hq := hq rc_1 hp
  have hP : va_P (dC, dI) vwCl (wd4 cI h ad (va_up I 19 (0 : Int32)) R) H := hP
  have hD : va_D A (wd4 cI h ad (va_up I 19 (0 : Int32)) R) := hD
  refine lv_if_eq (tgt := 25) hx hb dX4_seen_10 (by decide) (fun hc => ?_) (fun hc => ?_)
  · have hq := hq.1 hc
    refine lv_iconst (v := (-1 : Int32)) hx hb dX4_seen_25 (by decide) ?_
    exact w_iret (post := fun r (u : (Nat → Int32) × (Nat → Nat → Int32)) => post r u.1 u.2) (wf := fun u : (Nat → Int32) × (Nat → Nat → Int32) => wd4 cI h ad u.1 u.2) (u := (va_up I 19 (0 : Int32), R)) hx hb hr hK hP hD hS hq dX4_seen_26 hlocks
  · have hq := hq.2 hc
    refine lv_aload_n hx hb dX4_seen_13 rfl (lv_at hl 0 rfl) ?_
    refine lv_aload_n hx hb dX4_seen_14 rfl (lv_at hl 0 rfl) ?_
    refine va_get (D := (dC, dI)) (ci := 4) (v := .int (I 16)) (C := RX4) (T := TX4) (N := 27) hx hb hts nX4_seen_X4 hown hK hP 0 rfl rfl 16 (by decide) (hts _ mX4_seen_f108) (fun _ h9 => h9) rfl dX4_seen_15 ?_
    refine lv_iload_n hx hb dX4_seen_18 rfl (lv_at hl 1 rfl) ?_
    obtain ⟨Pc_2, hc, hq⟩ := hq
    refine w_calli (wf := fun u : (Nat → Int32) × (Nat → Nat → Int32) => wd4 cI h ad u.1 u.2) (va_runV (As := [.int (I 16), .int p1]) (rest := []) ⟨hx, hb, hml, hown, hts⟩ (tX4_timesIn l dC dI cI h ad _ Pc_2 (I 16) p1 (va_up I 19 (0 : Int32)) R hc) (cwV 2 hts gX4_seen_X4_timesIn rfl rfl rfl (by decide +kernel) ⟨Nat.le_of_ble_eq_true rfl, Nat.le_of_ble_eq_true rfl⟩) (wPreV hK hP hD (ci := 4) (q0 := 0) rfl rfl) rfl rfl hl.1 rfl (lv_room (Nat.le_of_ble_eq_true rfl)) dX4_seen_19 ⟨Nat.le_of_ble_eq_true rfl, Nat.le_of_ble_eq_true rfl⟩) hD hS hA (fun rc_2 u H locs hp hP hD hS => ?_)
    obtain ⟨Ic_2, Rc_2⟩ := u
    have hq := hq rc_2 Ic_2 Rc_2 hp
    have hP : va_P (dC, dI) vwCl (wd4 cI h ad Ic_2 Rc_2) H := hP
    have hD : va_D A (wd4 cI h ad Ic_2 Rc_2) := hD
    refine lv_goto (tgt := 26) hx hb dX4_seen_22 (by decide) ?_
    exact w_iret (post := fun r (u : (Nat → Int32) × (Nat → Nat → Int32)) => post r u.1 u.2) (wf := fun u : (Nat → Int32) × (Nat → Nat → Int32) => wd4 cI h ad u.1 u.2) (u := (Ic_2, Rc_2)) hx hb hr hK hP hD hS hq dX4_seen_26 hlocks
def qX4_set (post : Int32 → (Nat → Int32) → (Nat → Nat → Int32) → Prop) (p1 : Int32) (p2 : Int32) (I : Nat → Int32) (R : Nat → Nat → Int32) : Prop := ((p1.toInt < 0 ∨ 3 < p1.toInt) → (post (-1 : Int32) (va_up I 19 (0 : Int32)) R)) ∧ ((p1 = (0 : Int32)) → (∃ Pc_1 : Int32 → Prop, qX4_in Pc_1 p2 (0 : Int32) (50 : Int32) ∧ (∀ (rc_1 : Int32), Pc_1 rc_1 → (((¬ rc_1 = 0) → (∀ x3_2 : Int32, x3_2 = I 12 → (post x3_2 (va_up (va_up I 19 (0 : Int32)) 12 p2) R))) ∧ ((rc_1 = 0) → (post (-1 : Int32) (va_up I 19 (0 : Int32)) R)))))) ∧ ((p1 = (1 : Int32)) → (∃ Pc_3 : Int32 → Prop, qX4_in Pc_3 p2 (0 : Int32) (14 : Int32) ∧ (∀ (rc_3 : Int32), Pc_3 rc_3 → (((¬ rc_3 = 0) → (∀ x3_4 : Int32, x3_4 = I 13 → (post x3_4 (va_up (va_up I 19 (0 : Int32)) 13 p2) R))) ∧ ((rc_3 = 0) → (post (-1 : Int32) (va_up I 19 (0 : Int32)) R)))))) ∧ ((p1 = (2 : Int32)) → (∃ Pc_5 : Int32 → Prop, qX4_in Pc_5 p2 (0 : Int32) (14 : Int32) ∧ (∀ (rc_5 : Int32), Pc_5 rc_5 → (((¬ rc_5 = 0) → (∀ x3_6 : Int32, x3_6 = I 14 → (post x3_6 (va_up (va_up I 19 (0 : Int32)) 14 p2) R))) ∧ ((rc_5 = 0) → (post (-1 : Int32) (va_up I 19 (0 : Int32)) R)))))) ∧ ((p1 = (3 : Int32)) → (∃ Pc_7 : Int32 → Prop, qX4_in Pc_7 p2 (1 : Int32) (14 : Int32) ∧ (∀ (rc_7 : Int32), Pc_7 rc_7 → (((¬ rc_7 = 0) → (∀ x3_8 : Int32, x3_8 = I 15 → (post x3_8 (va_up (va_up I 19 (0 : Int32)) 15 p2) R))) ∧ ((rc_7 = 0) → (post (-1 : Int32) (va_up I 19 (0 : Int32)) R))))))
theorem mX4_set_f71 : Cond.fieldLink RX4 71 "YearBookModel" "thrown" "I" ∈ wsX4_set := by decide +kernel
theorem nX4_set_X4 : ∀ w ∈ u_ws RX4 TX4 27, w ∈ wsX4_set := by decide +kernel
theorem mX4_set_f40 : Cond.fieldLink RX4 40 "YearBookModel" "span" "I" ∈ wsX4_set := by decide +kernel
theorem mX4_set_f91 : Cond.fieldLink RX4 91 "YearBookModel" "low" "I" ∈ wsX4_set := by decide +kernel
theorem mX4_set_f44 : Cond.fieldLink RX4 44 "YearBookModel" "high" "I" ∈ wsX4_set := by decide +kernel
theorem mX4_set_f47 : Cond.fieldLink RX4 47 "YearBookModel" "last" "I" ∈ wsX4_set := by decide +kernel
set_option maxHeartbeats 4000000 in
set_option maxRecDepth 100000 in
theorem tX4_set (l : Launch) (dC : Nat → ClassId) (dI : Nat → Nat → Nat) (cI : ClassId) (h : Nat) (ad : Nat → Nat)  (sz : Nat) (post : Int32 → (Nat → Int32) → (Nat → Nat → Int32) → Prop) (p1 : Int32) (p2 : Int32) (I : Nat → Int32) (R : Nat → Nat → Int32) (hq : qX4_set post p1 p2 I R) : Met l yX4_set wsX4_set ({ frames := 1, cells := 0, slots := 0, locals := 22 } : Room) (va_Pc [.ref h, .int p1, .int p2] (wPre (dC, dI) vwCl [(cI, .int)] (wd4 cI h ad I R) sz)) (va_Qi (fun r (u : (Nat → Int32) × (Nat → Nat → Int32)) => post r u.1 u.2) (wAt (dC, dI) vwCl [(cI, .int)] (va_A (wd4 cI h ad I R) sz) (fun u : (Nat → Int32) × (Nat → Nat → Int32) => wd4 cI h ad u.1 u.2)) (va_A (wd4 cI h ad I R) sz)) 0 0 (va_A (wd4 cI h ad I R) sz) := by
  unfold qX4_set at hq
  refine Met.ofW (cc := cX4_set) (maxL := 4) (ret := (some .int)) (by decide) rfl ?_
  intro p e s m args below meth c s₁ B hml hv
  obtain ⟨rfl, hsz, hP, hK, hD0⟩ := hv
  have hx := B.exec
  have hb := B.bytes
  have hr := B.returns
  have hts := atoms_spec (ws := wsX4_set) B.pre
  have hown : s.vm.findClass RX4 = some m.cls := findClass_of_methodNamed B.named
  have hlocks := B.notSynchronized
  subst hsz
  have hD := hD0.self (sz := s.heap.size)
  generalize hAe : va_A (wd4 cI h ad I R) s.heap.size = A at hD ⊢
  have hA : ∀ q : Nat, s.heap.size ≤ q → A q := fun q h => by rw [← hAe]; exact Or.inr h
  have hS : va_S A s.heap s.heap [] := va_S.rf
  have hl := lv_entry ([.ref h, .int p1, .int p2]) (n := 4) (Nat.le_of_ble_eq_true rfl)
  rw [lg_entry_eq]
  generalize (lg_sl ([.ref h, .int p1, .int p2]) ++ List.replicate (4 - (lg_sl ([.ref h, .int p1, .int p2])).length) Slot.unset).toArray = ls at hl ⊢
  have hl : lv_has ls 4 [(0, .ref h), (1, .int p1), (2, .int p2)] := hl
  refine lv_aload_n hx hb dX4_set_0 rfl (lv_at hl 0 rfl) ?_
  refine lv_iconst (v := (0 : Int32)) hx hb dX4_set_1 (by decide) ?_
  refine va_put (D := (dC, dI)) (ci := 4) (v := .int (0 : Int32)) (ty := .int) (C := RX4) (T := TX4) (N := 27) hx hb hts nX4_set_X4 tyX4 tyX4_ok nmX4 hown hK hP hD hS 0 rfl rfl 19 (by decide) (hts _ mX4_set_f71) (fun _ h9 => h9) rfl (by decide +kernel) rfl rfl (Nat.le_of_ble_eq_true rfl) dX4_set_2 (fun H locs hP hD hS => ?_)
  rw [wd4_I19] at hP hD
  refine lv_iload_n hx hb dX4_set_5 rfl (lv_at hl 1 rfl) ?_
  by_cases g0 : p1 = (0 : Int32)
  · have hq := hq.2.1 g0
    refine lv_tableIn (off := 30) (tgt := 36) hx hb dX4_set_6 (by rw [g0]; decide) (by rw [g0]; decide) (by rw [g0]; rfl) (by decide) ?_
    refine lv_iload_n hx hb dX4_set_36 rfl (lv_at hl 2 rfl) ?_
    refine lv_iconst (v := (0 : Int32)) hx hb dX4_set_37 (by decide) ?_
    refine lv_bipush (v := (50 : Int32)) hx hb dX4_set_38 (by decide) ?_
    obtain ⟨Pc_1, hc, hq⟩ := hq
    refine vp_callSi (W.runS (As := [.int p2, .int (0 : Int32), .int (50 : Int32)]) (rest := []) ⟨hx, hb, hml, hown, hts⟩ (tX4_in l Pc_1 p2 (0 : Int32) (50 : Int32) hc) (va_cwS 3 hts gX4_set_X4_in rfl rfl rfl (by decide +kernel) ⟨Nat.le_of_ble_eq_true rfl, Nat.le_of_ble_eq_true rfl⟩) preEq rfl rfl hl.1 rfl (lv_room (Nat.le_of_ble_eq_true rfl)) dX4_set_40 ⟨Nat.le_of_ble_eq_true rfl, Nat.le_of_ble_eq_true rfl⟩) (fun rc_1 hp => ?_)
    have hq := hq rc_1 hp
    refine lv_if_ne (tgt := 48) hx hb dX4_set_43 (by decide) (fun hc => ?_) (fun hc => ?_)
    · have hq := hq.1 hc
      refine lv_aload_n hx hb dX4_set_48 rfl (lv_at hl 0 rfl) ?_
      refine va_get (D := (dC, dI)) (ci := 4) (v := .int (I 12)) (C := RX4) (T := TX4) (N := 27) hx hb hts nX4_set_X4 hown hK hP 0 rfl rfl 12 (by decide) (hts _ mX4_set_f40) (fun _ h9 => h9) rfl dX4_set_49 ?_
      refine lv_topi (fun x3_2 ex3_2 => ?_)
      have hq := hq x3_2 ex3_2
      refine lv_istore_n (lv' := [(3, .int x3_2), (0, .ref h), (1, .int p1), (2, .int p2)]) hx hb dX4_set_52 rfl hl (by decide) rfl (fun ls hl => ?_)
      refine lv_aload_n hx hb dX4_set_53 rfl (lv_at hl 1 rfl) ?_
      refine lv_iload_n hx hb dX4_set_54 rfl (lv_at hl 3 rfl) ?_
      refine va_put (D := (dC, dI)) (ci := 4) (v := .int p2) (ty := .int) (C := RX4) (T := TX4) (N := 27) hx hb hts nX4_set_X4 tyX4 tyX4_ok nmX4 hown hK hP hD hS 0 rfl rfl 12 (by decide) (hts _ mX4_set_f40) (fun _ h9 => h9) rfl (by decide +kernel) rfl rfl (Nat.le_of_ble_eq_true rfl) dX4_set_55 (fun H locs hP hD hS => ?_)
      rw [wd4_I12] at hP hD
      refine lv_iload_n hx hb dX4_set_58 rfl (lv_at hl 0 rfl) ?_
      exact w_iret (post := fun r (u : (Nat → Int32) × (Nat → Nat → Int32)) => post r u.1 u.2) (wf := fun u : (Nat → Int32) × (Nat → Nat → Int32) => wd4 cI h ad u.1 u.2) (u := (va_up (va_up I 19 (0 : Int32)) 12 p2, R)) hx hb hr hK hP hD hS hq dX4_set_59 hlocks
    · have hq := hq.2 hc
      refine lv_iconst (v := (-1 : Int32)) hx hb dX4_set_46 (by decide) ?_
      exact w_iret (post := fun r (u : (Nat → Int32) × (Nat → Nat → Int32)) => post r u.1 u.2) (wf := fun u : (Nat → Int32) × (Nat → Nat → Int32) => wd4 cI h ad u.1 u.2) (u := (va_up I 19 (0 : Int32), R)) hx hb hr hK hP hD hS hq dX4_set_47 hlocks
  by_cases g1 : p1 = (1 : Int32)
  · have hq := hq.2.2.1 g1
    refine lv_tableIn (off := 54) (tgt := 60) hx hb dX4_set_6 (by rw [g1]; decide) (by rw [g1]; decide) (by rw [g1]; rfl) (by decide) ?_
    refine lv_iload_n hx hb dX4_set_60 rfl (lv_at hl 2 rfl) ?_
    refine lv_iconst (v := (0 : Int32)) hx hb dX4_set_61 (by decide) ?_
    refine lv_bipush (v := (14 : Int32)) hx hb dX4_set_62 (by decide) ?_
    obtain ⟨Pc_3, hc, hq⟩ := hq
    refine vp_callSi (W.runS (As := [.int p2, .int (0 : Int32), .int (14 : Int32)]) (rest := []) ⟨hx, hb, hml, hown, hts⟩ (tX4_in l Pc_3 p2 (0 : Int32) (14 : Int32) hc) (va_cwS 3 hts gX4_set_X4_in rfl rfl rfl (by decide +kernel) ⟨Nat.le_of_ble_eq_true rfl, Nat.le_of_ble_eq_true rfl⟩) preEq rfl rfl hl.1 rfl (lv_room (Nat.le_of_ble_eq_true rfl)) dX4_set_64 ⟨Nat.le_of_ble_eq_true rfl, Nat.le_of_ble_eq_true rfl⟩) (fun rc_3 hp => ?_)
    have hq := hq rc_3 hp
    refine lv_if_ne (tgt := 72) hx hb dX4_set_67 (by decide) (fun hc => ?_) (fun hc => ?_)
    · have hq := hq.1 hc
      refine lv_aload_n hx hb dX4_set_72 rfl (lv_at hl 0 rfl) ?_
      refine va_get (D := (dC, dI)) (ci := 4) (v := .int (I 13)) (C := RX4) (T := TX4) (N := 27) hx hb hts nX4_set_X4 hown hK hP 0 rfl rfl 13 (by decide) (hts _ mX4_set_f91) (fun _ h9 => h9) rfl dX4_set_73 ?_
      refine lv_topi (fun x3_4 ex3_4 => ?_)
      have hq := hq x3_4 ex3_4
      refine lv_istore_n (lv' := [(3, .int x3_4), (0, .ref h), (1, .int p1), (2, .int p2)]) hx hb dX4_set_76 rfl hl (by decide) rfl (fun ls hl => ?_)
      refine lv_aload_n hx hb dX4_set_77 rfl (lv_at hl 1 rfl) ?_
      refine lv_iload_n hx hb dX4_set_78 rfl (lv_at hl 3 rfl) ?_
      refine va_put (D := (dC, dI)) (ci := 4) (v := .int p2) (ty := .int) (C := RX4) (T := TX4) (N := 27) hx hb hts nX4_set_X4 tyX4 tyX4_ok nmX4 hown hK hP hD hS 0 rfl rfl 13 (by decide) (hts _ mX4_set_f91) (fun _ h9 => h9) rfl (by decide +kernel) rfl rfl (Nat.le_of_ble_eq_true rfl) dX4_set_79 (fun H locs hP hD hS => ?_)
      rw [wd4_I13] at hP hD
      refine lv_iload_n hx hb dX4_set_82 rfl (lv_at hl 0 rfl) ?_
      exact w_iret (post := fun r (u : (Nat → Int32) × (Nat → Nat → Int32)) => post r u.1 u.2) (wf := fun u : (Nat → Int32) × (Nat → Nat → Int32) => wd4 cI h ad u.1 u.2) (u := (va_up (va_up I 19 (0 : Int32)) 13 p2, R)) hx hb hr hK hP hD hS hq dX4_set_83 hlocks
    · have hq := hq.2 hc
      refine lv_iconst (v := (-1 : Int32)) hx hb dX4_set_70 (by decide) ?_
      exact w_iret (post := fun r (u : (Nat → Int32) × (Nat → Nat → Int32)) => post r u.1 u.2) (wf := fun u : (Nat → Int32) × (Nat → Nat → Int32) => wd4 cI h ad u.1 u.2) (u := (va_up I 19 (0 : Int32), R)) hx hb hr hK hP hD hS hq dX4_set_71 hlocks
  by_cases g2 : p1 = (2 : Int32)
  · have hq := hq.2.2.2.1 g2
    refine lv_tableIn (off := 78) (tgt := 84) hx hb dX4_set_6 (by rw [g2]; decide) (by rw [g2]; decide) (by rw [g2]; rfl) (by decide) ?_
    refine lv_iload_n hx hb dX4_set_84 rfl (lv_at hl 2 rfl) ?_
    refine lv_iconst (v := (0 : Int32)) hx hb dX4_set_85 (by decide) ?_
    refine lv_bipush (v := (14 : Int32)) hx hb dX4_set_86 (by decide) ?_
    obtain ⟨Pc_5, hc, hq⟩ := hq
    refine vp_callSi (W.runS (As := [.int p2, .int (0 : Int32), .int (14 : Int32)]) (rest := []) ⟨hx, hb, hml, hown, hts⟩ (tX4_in l Pc_5 p2 (0 : Int32) (14 : Int32) hc) (va_cwS 3 hts gX4_set_X4_in rfl rfl rfl (by decide +kernel) ⟨Nat.le_of_ble_eq_true rfl, Nat.le_of_ble_eq_true rfl⟩) preEq rfl rfl hl.1 rfl (lv_room (Nat.le_of_ble_eq_true rfl)) dX4_set_88 ⟨Nat.le_of_ble_eq_true rfl, Nat.le_of_ble_eq_true rfl⟩) (fun rc_5 hp => ?_)
    have hq := hq rc_5 hp
    refine lv_if_ne (tgt := 96) hx hb dX4_set_91 (by decide) (fun hc => ?_) (fun hc => ?_)
    · have hq := hq.1 hc
      refine lv_aload_n hx hb dX4_set_96 rfl (lv_at hl 0 rfl) ?_
      refine va_get (D := (dC, dI)) (ci := 4) (v := .int (I 14)) (C := RX4) (T := TX4) (N := 27) hx hb hts nX4_set_X4 hown hK hP 0 rfl rfl 14 (by decide) (hts _ mX4_set_f44) (fun _ h9 => h9) rfl dX4_set_97 ?_
      refine lv_topi (fun x3_6 ex3_6 => ?_)
      have hq := hq x3_6 ex3_6
      refine lv_istore_n (lv' := [(3, .int x3_6), (0, .ref h), (1, .int p1), (2, .int p2)]) hx hb dX4_set_100 rfl hl (by decide) rfl (fun ls hl => ?_)
      refine lv_aload_n hx hb dX4_set_101 rfl (lv_at hl 1 rfl) ?_
      refine lv_iload_n hx hb dX4_set_102 rfl (lv_at hl 3 rfl) ?_
      refine va_put (D := (dC, dI)) (ci := 4) (v := .int p2) (ty := .int) (C := RX4) (T := TX4) (N := 27) hx hb hts nX4_set_X4 tyX4 tyX4_ok nmX4 hown hK hP hD hS 0 rfl rfl 14 (by decide) (hts _ mX4_set_f44) (fun _ h9 => h9) rfl (by decide +kernel) rfl rfl (Nat.le_of_ble_eq_true rfl) dX4_set_103 (fun H locs hP hD hS => ?_)
      rw [wd4_I14] at hP hD
      refine lv_iload_n hx hb dX4_set_106 rfl (lv_at hl 0 rfl) ?_
      exact w_iret (post := fun r (u : (Nat → Int32) × (Nat → Nat → Int32)) => post r u.1 u.2) (wf := fun u : (Nat → Int32) × (Nat → Nat → Int32) => wd4 cI h ad u.1 u.2) (u := (va_up (va_up I 19 (0 : Int32)) 14 p2, R)) hx hb hr hK hP hD hS hq dX4_set_107 hlocks
    · have hq := hq.2 hc
      refine lv_iconst (v := (-1 : Int32)) hx hb dX4_set_94 (by decide) ?_
      exact w_iret (post := fun r (u : (Nat → Int32) × (Nat → Nat → Int32)) => post r u.1 u.2) (wf := fun u : (Nat → Int32) × (Nat → Nat → Int32) => wd4 cI h ad u.1 u.2) (u := (va_up I 19 (0 : Int32), R)) hx hb hr hK hP hD hS hq dX4_set_95 hlocks
  by_cases g3 : p1 = (3 : Int32)
  · have hq := hq.2.2.2.2 g3
    refine lv_tableIn (off := 102) (tgt := 108) hx hb dX4_set_6 (by rw [g3]; decide) (by rw [g3]; decide) (by rw [g3]; rfl) (by decide) ?_
    refine lv_iload_n hx hb dX4_set_108 rfl (lv_at hl 2 rfl) ?_
    refine lv_iconst (v := (1 : Int32)) hx hb dX4_set_109 (by decide) ?_
    refine lv_bipush (v := (14 : Int32)) hx hb dX4_set_110 (by decide) ?_
    obtain ⟨Pc_7, hc, hq⟩ := hq
    refine vp_callSi (W.runS (As := [.int p2, .int (1 : Int32), .int (14 : Int32)]) (rest := []) ⟨hx, hb, hml, hown, hts⟩ (tX4_in l Pc_7 p2 (1 : Int32) (14 : Int32) hc) (va_cwS 3 hts gX4_set_X4_in rfl rfl rfl (by decide +kernel) ⟨Nat.le_of_ble_eq_true rfl, Nat.le_of_ble_eq_true rfl⟩) preEq rfl rfl hl.1 rfl (lv_room (Nat.le_of_ble_eq_true rfl)) dX4_set_112 ⟨Nat.le_of_ble_eq_true rfl, Nat.le_of_ble_eq_true rfl⟩) (fun rc_7 hp => ?_)
    have hq := hq rc_7 hp
    refine lv_if_ne (tgt := 120) hx hb dX4_set_115 (by decide) (fun hc => ?_) (fun hc => ?_)
    · have hq := hq.1 hc
      refine lv_aload_n hx hb dX4_set_120 rfl (lv_at hl 0 rfl) ?_
      refine va_get (D := (dC, dI)) (ci := 4) (v := .int (I 15)) (C := RX4) (T := TX4) (N := 27) hx hb hts nX4_set_X4 hown hK hP 0 rfl rfl 15 (by decide) (hts _ mX4_set_f47) (fun _ h9 => h9) rfl dX4_set_121 ?_
      refine lv_topi (fun x3_8 ex3_8 => ?_)
      have hq := hq x3_8 ex3_8
      refine lv_istore_n (lv' := [(3, .int x3_8), (0, .ref h), (1, .int p1), (2, .int p2)]) hx hb dX4_set_124 rfl hl (by decide) rfl (fun ls hl => ?_)
      refine lv_aload_n hx hb dX4_set_125 rfl (lv_at hl 1 rfl) ?_
      refine lv_iload_n hx hb dX4_set_126 rfl (lv_at hl 3 rfl) ?_
      refine va_put (D := (dC, dI)) (ci := 4) (v := .int p2) (ty := .int) (C := RX4) (T := TX4) (N := 27) hx hb hts nX4_set_X4 tyX4 tyX4_ok nmX4 hown hK hP hD hS 0 rfl rfl 15 (by decide) (hts _ mX4_set_f47) (fun _ h9 => h9) rfl (by decide +kernel) rfl rfl (Nat.le_of_ble_eq_true rfl) dX4_set_127 (fun H locs hP hD hS => ?_)
      rw [wd4_I15] at hP hD
      refine lv_iload_n hx hb dX4_set_130 rfl (lv_at hl 0 rfl) ?_
      exact w_iret (post := fun r (u : (Nat → Int32) × (Nat → Nat → Int32)) => post r u.1 u.2) (wf := fun u : (Nat → Int32) × (Nat → Nat → Int32) => wd4 cI h ad u.1 u.2) (u := (va_up (va_up I 19 (0 : Int32)) 15 p2, R)) hx hb hr hK hP hD hS hq dX4_set_131 hlocks
    · have hq := hq.2 hc
      refine lv_iconst (v := (-1 : Int32)) hx hb dX4_set_118 (by decide) ?_
      exact w_iret (post := fun r (u : (Nat → Int32) × (Nat → Nat → Int32)) => post r u.1 u.2) (wf := fun u : (Nat → Int32) × (Nat → Nat → Int32) => wd4 cI h ad u.1 u.2) (u := (va_up I 19 (0 : Int32), R)) hx hb hr hK hP hD hS hq dX4_set_119 hlocks
  have g0 : p1.toInt ≠ 0 := ne_toInt g0
  have g1 : p1.toInt ≠ 1 := ne_toInt g1
  have g2 : p1.toInt ≠ 2 := ne_toInt g2
  have g3 : p1.toInt ≠ 3 := ne_toInt g3
  have hc : p1.toInt < 0 ∨ 3 < p1.toInt := by omega
  have hq := hq.1 hc
  refine lv_tableOut (tgt := 132) hx hb dX4_set_6 hc (by decide) ?_
  refine lv_iconst (v := (-1 : Int32)) hx hb dX4_set_132 (by decide) ?_
  exact w_iret (post := fun r (u : (Nat → Int32) × (Nat → Nat → Int32)) => post r u.1 u.2) (wf := fun u : (Nat → Int32) × (Nat → Nat → Int32) => wd4 cI h ad u.1 u.2) (u := (va_up I 19 (0 : Int32), R)) hx hb hr hK hP hD hS hq dX4_set_133 hlocks
def zX4_shows (post : Int32 → (Nat → Int32) → (Nat → Nat → Int32) → Prop) (p1 : Int32) (X21 : Int32 → Int32 → (Nat → Int32) → (Nat → Nat → Int32) → Prop) (X56 : Int32 → Int32 → Int32 → (Nat → Int32) → (Nat → Nat → Int32) → Prop) : Prop :=
  (∀ (x2 : Int32) (x3 : Int32) (I : Nat → Int32) (R : Nat → Nat → Int32), ((((I 2) ≤ x3) → (X56 x2 (0 : Int32) (0 : Int32) I R)) ∧ ((¬ (I 2) ≤ x3) → (vp_in x3 16 ∧ (((¬ (R 0 x3.toNatClampNeg) = p1) → (X21 x2 (x3 + (1 : Int32)) I R)) ∧ (((R 0 x3.toNatClampNeg) = p1) → (∀ x2_3 : Int32, x2_3 = x2 ||| ((1 : Int32) <<< (x3 &&& 31)) → (X21 x2_3 (x3 + (1 : Int32)) I R))))))) → X21 x2 x3 I R) ∧
  (∀ (x2 : Int32) (x3 : Int32) (x4 : Int32) (I : Nat → Int32) (R : Nat → Nat → Int32), ((((I 11) ≤ x4) → (post x3 I R)) ∧ ((¬ (I 11) ≤ x4) → (((¬ (((I 16) >>> (x4 &&& 31)) &&& (1 : Int32)) = (1 : Int32)) → (X56 x2 x3 (x4 + (1 : Int32)) I R)) ∧ (((((I 16) >>> (x4 &&& 31)) &&& (1 : Int32)) = (1 : Int32)) → (∃ Pc_4 : Int32 → (Nat → Int32) → (Nat → Nat → Int32) → Prop, qX4_seenIn Pc_4 x4 I R ∧ (∀ (rc_4 : Int32) (Ic_4 : Nat → Int32) (Rc_4 : Nat → Nat → Int32), Pc_4 rc_4 Ic_4 Rc_4 → ((((rc_4 &&& x2) = 0) → (X56 x2 x3 (x4 + (1 : Int32)) Ic_4 Rc_4)) ∧ ((¬ (rc_4 &&& x2) = 0) → (X56 x2 (x3 + (1 : Int32)) (x4 + (1 : Int32)) Ic_4 Rc_4))))))))) → X56 x2 x3 x4 I R)
def qX4_shows_21 (post : Int32 → (Nat → Int32) → (Nat → Nat → Int32) → Prop) (p1 : Int32) (x2 : Int32) (x3 : Int32) (I : Nat → Int32) (R : Nat → Nat → Int32) : Prop := ∀ (X21 : Int32 → Int32 → (Nat → Int32) → (Nat → Nat → Int32) → Prop) (X56 : Int32 → Int32 → Int32 → (Nat → Int32) → (Nat → Nat → Int32) → Prop), zX4_shows post p1 X21 X56 → X21 x2 x3 I R
def qX4_shows_56 (post : Int32 → (Nat → Int32) → (Nat → Nat → Int32) → Prop) (p1 : Int32) (x2 : Int32) (x3 : Int32) (x4 : Int32) (I : Nat → Int32) (R : Nat → Nat → Int32) : Prop := ∀ (X21 : Int32 → Int32 → (Nat → Int32) → (Nat → Nat → Int32) → Prop) (X56 : Int32 → Int32 → Int32 → (Nat → Int32) → (Nat → Nat → Int32) → Prop), zX4_shows post p1 X21 X56 → X56 x2 x3 x4 I R
theorem kX4_shows_21 {post : Int32 → (Nat → Int32) → (Nat → Nat → Int32) → Prop} {p1 : Int32} {x2 : Int32} {x3 : Int32} {I : Nat → Int32} {R : Nat → Nat → Int32} (h : (((I 2) ≤ x3) → (qX4_shows_56 post p1 x2 (0 : Int32) (0 : Int32) I R)) ∧ ((¬ (I 2) ≤ x3) → (vp_in x3 16 ∧ (((¬ (R 0 x3.toNatClampNeg) = p1) → (qX4_shows_21 post p1 x2 (x3 + (1 : Int32)) I R)) ∧ (((R 0 x3.toNatClampNeg) = p1) → (∀ x2_3 : Int32, x2_3 = x2 ||| ((1 : Int32) <<< (x3 &&& 31)) → (qX4_shows_21 post p1 x2_3 (x3 + (1 : Int32)) I R))))))) : qX4_shows_21 post p1 x2 x3 I R := by
  intro Z21 Z56 hcl
  refine hcl.1 x2 x3 I R ?_
  refine ⟨fun c => ?_, fun c => ?_⟩
  · have h := h.1 c
    exact h _ _ hcl
  · have h := h.2 c
    refine ⟨h.1, ?_⟩
    have h := h.2
    refine ⟨fun c => ?_, fun c => ?_⟩
    · have h := h.1 c
      exact h _ _ hcl
    · have h := h.2 c
      intro x e
      have h := h x e
      exact h _ _ hcl
theorem kX4_shows_56 {post : Int32 → (Nat → Int32) → (Nat → Nat → Int32) → Prop} {p1 : Int32} {x2 : Int32} {x3 : Int32} {x4 : Int32} {I : Nat → Int32} {R : Nat → Nat → Int32} (h : (((I 11) ≤ x4) → (post x3 I R)) ∧ ((¬ (I 11) ≤ x4) → (((¬ (((I 16) >>> (x4 &&& 31)) &&& (1 : Int32)) = (1 : Int32)) → (qX4_shows_56 post p1 x2 x3 (x4 + (1 : Int32)) I R)) ∧ (((((I 16) >>> (x4 &&& 31)) &&& (1 : Int32)) = (1 : Int32)) → (∃ Pc_4 : Int32 → (Nat → Int32) → (Nat → Nat → Int32) → Prop, qX4_seenIn Pc_4 x4 I R ∧ (∀ (rc_4 : Int32) (Ic_4 : Nat → Int32) (Rc_4 : Nat → Nat → Int32), Pc_4 rc_4 Ic_4 Rc_4 → ((((rc_4 &&& x2) = 0) → (qX4_shows_56 post p1 x2 x3 (x4 + (1 : Int32)) Ic_4 Rc_4)) ∧ ((¬ (rc_4 &&& x2) = 0) → (qX4_shows_56 post p1 x2 (x3 + (1 : Int32)) (x4 + (1 : Int32)) Ic_4 Rc_4))))))))) : qX4_shows_56 post p1 x2 x3 x4 I R := by
  intro Z21 Z56 hcl
  refine hcl.2 x2 x3 x4 I R ?_
  refine ⟨fun c => ?_, fun c => ?_⟩
  · have h := h.1 c
    exact h
  · have h := h.2 c
    refine ⟨fun c => ?_, fun c => ?_⟩
    · have h := h.1 c
      exact h _ _ hcl
    · have h := h.2 c
      obtain ⟨P, h1, h2⟩ := h
      refine ⟨P, h1, fun b0 b1 b2 hp => ?_⟩
      have h := h2 b0 b1 b2 hp
      refine ⟨fun c => ?_, fun c => ?_⟩
      · have h := h.1 c
        exact h _ _ hcl
      · have h := h.2 c
        exact h _ _ hcl
def qX4_shows (post : Int32 → (Nat → Int32) → (Nat → Nat → Int32) → Prop) (p1 : Int32) (I : Nat → Int32) (R : Nat → Nat → Int32) : Prop := ∃ Pc_1 : Int32 → Prop, qX4_in Pc_1 p1 (0 : Int32) (9 : Int32) ∧ (∀ (rc_1 : Int32), Pc_1 rc_1 → (((¬ rc_1 = 0) → (qX4_shows_21 post p1 (0 : Int32) (0 : Int32) (va_up I 19 (0 : Int32)) R)) ∧ ((rc_1 = 0) → (post (-1 : Int32) (va_up I 19 (0 : Int32)) R))))
theorem mX4_shows_f71 : Cond.fieldLink RX4 71 "YearBookModel" "thrown" "I" ∈ wsX4_shows := by decide +kernel
theorem nX4_shows_X4 : ∀ w ∈ u_ws RX4 TX4 27, w ∈ wsX4_shows := by decide +kernel
theorem mX4_shows_f81 : Cond.fieldLink RX4 81 "YearBookModel" "children" "I" ∈ wsX4_shows := by decide +kernel
theorem mX4_shows_f9 : Cond.fieldLink RX4 9 "YearBookModel" "room" "[I" ∈ wsX4_shows := by decide +kernel
theorem mX4_shows_f74 : Cond.fieldLink RX4 74 "YearBookModel" "pictures" "I" ∈ wsX4_shows := by decide +kernel
theorem mX4_shows_f108 : Cond.fieldLink RX4 108 "YearBookModel" "choice" "I" ∈ wsX4_shows := by decide +kernel
set_option maxHeartbeats 4000000 in
set_option maxRecDepth 100000 in
theorem tX4_shows (l : Launch) (dC : Nat → ClassId) (dI : Nat → Nat → Nat) (cI : ClassId) (h : Nat) (ad : Nat → Nat)  (sz : Nat) (post : Int32 → (Nat → Int32) → (Nat → Nat → Int32) → Prop) (p1 : Int32) (I : Nat → Int32) (R : Nat → Nat → Int32) (hq : qX4_shows post p1 I R) : Met l yX4_shows wsX4_shows ({ frames := 4, cells := 0, slots := 0, locals := 97 } : Room) (va_Pc [.ref h, .int p1] (wPre (dC, dI) vwCl [(cI, .int)] (wd4 cI h ad I R) sz)) (va_Qi (fun r (u : (Nat → Int32) × (Nat → Nat → Int32)) => post r u.1 u.2) (wAt (dC, dI) vwCl [(cI, .int)] (va_A (wd4 cI h ad I R) sz) (fun u : (Nat → Int32) × (Nat → Nat → Int32) => wd4 cI h ad u.1 u.2)) (va_A (wd4 cI h ad I R) sz)) 0 0 (va_A (wd4 cI h ad I R) sz) := by
  unfold qX4_shows at hq
  refine Met.ofW (cc := cX4_shows) (maxL := 5) (ret := (some .int)) (by decide) rfl ?_
  intro p e s m args below meth c s₁ B hml hv
  obtain ⟨rfl, hsz, hP, hK, hD0⟩ := hv
  have hx := B.exec
  have hb := B.bytes
  have hr := B.returns
  have hts := atoms_spec (ws := wsX4_shows) B.pre
  have hown : s.vm.findClass RX4 = some m.cls := findClass_of_methodNamed B.named
  have hlocks := B.notSynchronized
  subst hsz
  have hD := hD0.self (sz := s.heap.size)
  generalize hAe : va_A (wd4 cI h ad I R) s.heap.size = A at hD ⊢
  have hA : ∀ q : Nat, s.heap.size ≤ q → A q := fun q h => by rw [← hAe]; exact Or.inr h
  have hS : va_S A s.heap s.heap [] := va_S.rf
  have hZ : zX4_shows post p1
      (fun (x2 : Int32) (x3 : Int32) (I : Nat → Int32) (R : Nat → Nat → Int32) => ∀ (H : Heap) (locs : List Loc) (ls : Array Slot), va_P (dC, dI) vwCl (wd4 cI h ad I R) H → va_D A (wd4 cI h ad I R) → va_S A s.heap H locs → lv_has ls 5 [(0, .ref h), (1, .int p1), (2, .int x2), (3, .int x3)] → W p l e (headSpec wsX4_shows ({ frames := 4, cells := 0, slots := 0, locals := 97 } : Room)).room s m ([.ref h, .int p1] : List Value).toArray below meth c H locs 0 0 (MQ below (va_Qi (fun r (u : (Nat → Int32) × (Nat → Nat → Int32)) => post r u.1 u.2) (wAt (dC, dI) vwCl [(cI, .int)] A (fun u : (Nat → Int32) × (Nat → Nat → Int32) => wd4 cI h ad u.1 u.2)) A) ([.ref h, .int p1] : List Value).toArray s 0 0 A) (F0 m 21 ls []))
      (fun (x2 : Int32) (x3 : Int32) (x4 : Int32) (I : Nat → Int32) (R : Nat → Nat → Int32) => ∀ (H : Heap) (locs : List Loc) (ls : Array Slot), va_P (dC, dI) vwCl (wd4 cI h ad I R) H → va_D A (wd4 cI h ad I R) → va_S A s.heap H locs → lv_has ls 5 [(0, .ref h), (2, .int x2), (3, .int x3), (4, .int x4)] → W p l e (headSpec wsX4_shows ({ frames := 4, cells := 0, slots := 0, locals := 97 } : Room)).room s m ([.ref h, .int p1] : List Value).toArray below meth c H locs 0 0 (MQ below (va_Qi (fun r (u : (Nat → Int32) × (Nat → Nat → Int32)) => post r u.1 u.2) (wAt (dC, dI) vwCl [(cI, .int)] A (fun u : (Nat → Int32) × (Nat → Nat → Int32) => wd4 cI h ad u.1 u.2)) A) ([.ref h, .int p1] : List Value).toArray s 0 0 A) (F0 m 56 ls [])) := by
    refine ⟨?_, ?_⟩
    · intro x2 x3 I R hq H locs ls hP hD hS hl
      refine lv_iload_n hx hb dX4_shows_21 rfl (lv_at hl 3 rfl) ?_
      refine lv_aload_n hx hb dX4_shows_22 rfl (lv_at hl 0 rfl) ?_
      refine va_get (D := (dC, dI)) (ci := 4) (v := .int (I 2)) (C := RX4) (T := TX4) (N := 27) hx hb hts nX4_shows_X4 hown hK hP 0 rfl rfl 2 (by decide) (hts _ mX4_shows_f81) (fun _ h9 => h9) rfl dX4_shows_23 ?_
      refine lv_icmp_ge (tgt := 51) hx hb dX4_shows_26 (by decide) (fun hc => ?_) (fun hc => ?_)
      · have hq := hq.1 hc
        refine lv_iconst (v := (0 : Int32)) hx hb dX4_shows_51 (by decide) ?_
        refine lv_istore_n (lv' := [(3, .int (0 : Int32)), (0, .ref h), (1, .int p1), (2, .int x2)]) hx hb dX4_shows_52 rfl hl (by decide) rfl (fun ls hl => ?_)
        refine lv_iconst (v := (0 : Int32)) hx hb dX4_shows_53 (by decide) ?_
        refine lv_istore (lv' := [(4, .int (0 : Int32)), (3, .int (0 : Int32)), (0, .ref h), (1, .int p1), (2, .int x2)]) hx hb dX4_shows_54 hl (by decide) rfl (fun ls hl => ?_)
        exact hq _ _ ls hP hD hS (lv_sub hl [2, 4, 1, 0] rfl)
      · have hq := hq.2 hc
        refine lv_aload_n hx hb dX4_shows_29 rfl (lv_at hl 0 rfl) ?_
        refine va_get (D := (dC, dI)) (ci := 4) (v := .ref (ad 0)) (C := RX4) (T := TX4) (N := 27) hx hb hts nX4_shows_X4 hown hK hP 0 rfl rfl 0 (by decide) (hts _ mX4_shows_f9) (fun _ h9 => h9) rfl dX4_shows_30 ?_
        refine lv_iload_n hx hb dX4_shows_33 rfl (lv_at hl 3 rfl) ?_
        obtain ⟨hi_2, hq⟩ := hq
        refine va_iald (f := R 0) hx hb hK hP 1 0 rfl rfl hi_2 dX4_shows_34 ?_
        refine lv_iload_n hx hb dX4_shows_35 rfl (lv_at hl 1 rfl) ?_
        refine lv_icmp_ne (tgt := 45) hx hb dX4_shows_36 (by decide) (fun hc => ?_) (fun hc => ?_)
        · have hq := hq.1 hc
          refine lv_iinc (v := x3 + (1 : Int32)) (lv' := [(3, .int (x3 + (1 : Int32))), (0, .ref h), (1, .int p1), (2, .int x2)]) hx hb dX4_shows_45 hl (k := 3) rfl rfl (by decide) rfl (fun ls hl => ?_)
          refine lv_goto (tgt := 21) hx hb dX4_shows_48 (by decide) ?_
          exact hq _ _ ls hP hD hS (lv_sub hl [1, 2, 3, 0] rfl)
        · have hq := hq.2 hc
          refine lv_iload_n hx hb dX4_shows_39 rfl (lv_at hl 2 rfl) ?_
          refine lv_iconst (v := (1 : Int32)) hx hb dX4_shows_40 (by decide) ?_
          refine lv_iload_n hx hb dX4_shows_41 rfl (lv_at hl 3 rfl) ?_
          refine lv_ishl hx hb dX4_shows_42 ?_
          refine lv_ior hx hb dX4_shows_43 ?_
          refine lv_topi (fun x2_3 ex2_3 => ?_)
          have hq := hq x2_3 ex2_3
          refine lv_istore_n (lv' := [(2, .int x2_3), (0, .ref h), (1, .int p1), (3, .int x3)]) hx hb dX4_shows_44 rfl hl (by decide) rfl (fun ls hl => ?_)
          refine lv_iinc (v := x3 + (1 : Int32)) (lv' := [(3, .int (x3 + (1 : Int32))), (2, .int x2_3), (0, .ref h), (1, .int p1)]) hx hb dX4_shows_45 hl (k := 3) rfl rfl (by decide) rfl (fun ls hl => ?_)
          refine lv_goto (tgt := 21) hx hb dX4_shows_48 (by decide) ?_
          exact hq _ _ ls hP hD hS (lv_sub hl [2, 3, 1, 0] rfl)
    · intro x2 x3 x4 I R hq H locs ls hP hD hS hl
      refine lv_iload hx hb dX4_shows_56 (lv_at hl 3 rfl) ?_
      refine lv_aload_n hx hb dX4_shows_58 rfl (lv_at hl 0 rfl) ?_
      refine va_get (D := (dC, dI)) (ci := 4) (v := .int (I 11)) (C := RX4) (T := TX4) (N := 27) hx hb hts nX4_shows_X4 hown hK hP 0 rfl rfl 11 (by decide) (hts _ mX4_shows_f74) (fun _ h9 => h9) rfl dX4_shows_59 ?_
      refine lv_icmp_ge (tgt := 98) hx hb dX4_shows_62 (by decide) (fun hc => ?_) (fun hc => ?_)
      · have hq := hq.1 hc
        refine lv_iload_n hx hb dX4_shows_98 rfl (lv_at hl 2 rfl) ?_
        exact w_iret (post := fun r (u : (Nat → Int32) × (Nat → Nat → Int32)) => post r u.1 u.2) (wf := fun u : (Nat → Int32) × (Nat → Nat → Int32) => wd4 cI h ad u.1 u.2) (u := (I, R)) hx hb hr hK hP hD hS hq dX4_shows_99 hlocks
      · have hq := hq.2 hc
        refine lv_aload_n hx hb dX4_shows_65 rfl (lv_at hl 0 rfl) ?_
        refine va_get (D := (dC, dI)) (ci := 4) (v := .int (I 16)) (C := RX4) (T := TX4) (N := 27) hx hb hts nX4_shows_X4 hown hK hP 0 rfl rfl 16 (by decide) (hts _ mX4_shows_f108) (fun _ h9 => h9) rfl dX4_shows_66 ?_
        refine lv_iload hx hb dX4_shows_69 (lv_at hl 3 rfl) ?_
        refine lv_ishr hx hb dX4_shows_71 ?_
        refine lv_iconst (v := (1 : Int32)) hx hb dX4_shows_72 (by decide) ?_
        refine lv_iand hx hb dX4_shows_73 ?_
        refine lv_iconst (v := (1 : Int32)) hx hb dX4_shows_74 (by decide) ?_
        refine lv_icmp_ne (tgt := 92) hx hb dX4_shows_75 (by decide) (fun hc => ?_) (fun hc => ?_)
        · have hq := hq.1 hc
          refine lv_iinc (v := x4 + (1 : Int32)) (lv' := [(4, .int (x4 + (1 : Int32))), (0, .ref h), (2, .int x2), (3, .int x3)]) hx hb dX4_shows_92 hl (k := 3) rfl rfl (by decide) rfl (fun ls hl => ?_)
          refine lv_goto (tgt := 56) hx hb dX4_shows_95 (by decide) ?_
          exact hq _ _ ls hP hD hS (lv_sub hl [1, 2, 3, 0] rfl)
        · have hq := hq.2 hc
          refine lv_aload_n hx hb dX4_shows_78 rfl (lv_at hl 0 rfl) ?_
          refine lv_iload hx hb dX4_shows_79 (lv_at hl 3 rfl) ?_
          obtain ⟨Pc_4, hc, hq⟩ := hq
          refine w_calli (wf := fun u : (Nat → Int32) × (Nat → Nat → Int32) => wd4 cI h ad u.1 u.2) (va_runV (As := [.int x4]) (rest := []) ⟨hx, hb, hml, hown, hts⟩ (tX4_seenIn l dC dI cI h ad _ Pc_4 x4 I R hc) (cwV 1 hts gX4_shows_X4_seenIn rfl rfl rfl (by decide +kernel) ⟨Nat.le_of_ble_eq_true rfl, Nat.le_of_ble_eq_true rfl⟩) (wPreV hK hP hD (ci := 4) (q0 := 0) rfl rfl) rfl rfl hl.1 rfl (lv_room (Nat.le_of_ble_eq_true rfl)) dX4_shows_81 ⟨Nat.le_of_ble_eq_true rfl, Nat.le_of_ble_eq_true rfl⟩) hD hS hA (fun rc_4 u H locs hp hP hD hS => ?_)
          obtain ⟨Ic_4, Rc_4⟩ := u
          have hq := hq rc_4 Ic_4 Rc_4 hp
          have hP : va_P (dC, dI) vwCl (wd4 cI h ad Ic_4 Rc_4) H := hP
          have hD : va_D A (wd4 cI h ad Ic_4 Rc_4) := hD
          refine lv_iload_n hx hb dX4_shows_84 rfl (lv_at hl 1 rfl) ?_
          refine lv_iand hx hb dX4_shows_85 ?_
          refine lv_if_eq (tgt := 92) hx hb dX4_shows_86 (by decide) (fun hc => ?_) (fun hc => ?_)
          · have hq := hq.1 hc
            refine lv_iinc (v := x4 + (1 : Int32)) (lv' := [(4, .int (x4 + (1 : Int32))), (0, .ref h), (2, .int x2), (3, .int x3)]) hx hb dX4_shows_92 hl (k := 3) rfl rfl (by decide) rfl (fun ls hl => ?_)
            refine lv_goto (tgt := 56) hx hb dX4_shows_95 (by decide) ?_
            exact hq _ _ ls hP hD hS (lv_sub hl [1, 2, 3, 0] rfl)
          · have hq := hq.2 hc
            refine lv_iinc (v := x3 + (1 : Int32)) (lv' := [(3, .int (x3 + (1 : Int32))), (0, .ref h), (2, .int x2), (4, .int x4)]) hx hb dX4_shows_89 hl (k := 2) rfl rfl (by decide) rfl (fun ls hl => ?_)
            refine lv_iinc (v := x4 + (1 : Int32)) (lv' := [(4, .int (x4 + (1 : Int32))), (3, .int (x3 + (1 : Int32))), (0, .ref h), (2, .int x2)]) hx hb dX4_shows_92 hl (k := 3) rfl rfl (by decide) rfl (fun ls hl => ?_)
            refine lv_goto (tgt := 56) hx hb dX4_shows_95 (by decide) ?_
            exact hq _ _ ls hP hD hS (lv_sub hl [2, 3, 1, 0] rfl)
  have hl := lv_entry ([.ref h, .int p1]) (n := 5) (Nat.le_of_ble_eq_true rfl)
  rw [lg_entry_eq]
  generalize (lg_sl ([.ref h, .int p1]) ++ List.replicate (5 - (lg_sl ([.ref h, .int p1])).length) Slot.unset).toArray = ls at hl ⊢
  have hl : lv_has ls 5 [(0, .ref h), (1, .int p1)] := hl
  refine lv_aload_n hx hb dX4_shows_0 rfl (lv_at hl 0 rfl) ?_
  refine lv_iconst (v := (0 : Int32)) hx hb dX4_shows_1 (by decide) ?_
  refine va_put (D := (dC, dI)) (ci := 4) (v := .int (0 : Int32)) (ty := .int) (C := RX4) (T := TX4) (N := 27) hx hb hts nX4_shows_X4 tyX4 tyX4_ok nmX4 hown hK hP hD hS 0 rfl rfl 19 (by decide) (hts _ mX4_shows_f71) (fun _ h9 => h9) rfl (by decide +kernel) rfl rfl (Nat.le_of_ble_eq_true rfl) dX4_shows_2 (fun H locs hP hD hS => ?_)
  rw [wd4_I19] at hP hD
  refine lv_iload_n hx hb dX4_shows_5 rfl (lv_at hl 1 rfl) ?_
  refine lv_iconst (v := (0 : Int32)) hx hb dX4_shows_6 (by decide) ?_
  refine lv_bipush (v := (9 : Int32)) hx hb dX4_shows_7 (by decide) ?_
  obtain ⟨Pc_1, hc, hq⟩ := hq
  refine vp_callSi (W.runS (As := [.int p1, .int (0 : Int32), .int (9 : Int32)]) (rest := []) ⟨hx, hb, hml, hown, hts⟩ (tX4_in l Pc_1 p1 (0 : Int32) (9 : Int32) hc) (va_cwS 3 hts gX4_shows_X4_in rfl rfl rfl (by decide +kernel) ⟨Nat.le_of_ble_eq_true rfl, Nat.le_of_ble_eq_true rfl⟩) preEq rfl rfl hl.1 rfl (lv_room (Nat.le_of_ble_eq_true rfl)) dX4_shows_9 ⟨Nat.le_of_ble_eq_true rfl, Nat.le_of_ble_eq_true rfl⟩) (fun rc_1 hp => ?_)
  have hq := hq rc_1 hp
  refine lv_if_ne (tgt := 17) hx hb dX4_shows_12 (by decide) (fun hc => ?_) (fun hc => ?_)
  · have hq := hq.1 hc
    refine lv_iconst (v := (0 : Int32)) hx hb dX4_shows_17 (by decide) ?_
    refine lv_istore_n (lv' := [(2, .int (0 : Int32)), (0, .ref h), (1, .int p1)]) hx hb dX4_shows_18 rfl hl (by decide) rfl (fun ls hl => ?_)
    refine lv_iconst (v := (0 : Int32)) hx hb dX4_shows_19 (by decide) ?_
    refine lv_istore_n (lv' := [(3, .int (0 : Int32)), (2, .int (0 : Int32)), (0, .ref h), (1, .int p1)]) hx hb dX4_shows_20 rfl hl (by decide) rfl (fun ls hl => ?_)
    exact hq _ _ hZ _ _ ls hP hD hS (lv_sub hl [2, 3, 1, 0] rfl)
  · have hq := hq.2 hc
    refine lv_iconst (v := (-1 : Int32)) hx hb dX4_shows_15 (by decide) ?_
    exact w_iret (post := fun r (u : (Nat → Int32) × (Nat → Nat → Int32)) => post r u.1 u.2) (wf := fun u : (Nat → Int32) × (Nat → Nat → Int32) => wd4 cI h ad u.1 u.2) (u := (va_up I 19 (0 : Int32), R)) hx hb hr hK hP hD hS hq dX4_shows_16 hlocks
def qX4_thrown (post : Int32 → Prop) (I : Nat → Int32) (R : Nat → Nat → Int32) : Prop := post (I 19)
theorem mX4_thrown_f71 : Cond.fieldLink RX4 71 "YearBookModel" "thrown" "I" ∈ wsX4_thrown := by decide +kernel
theorem nX4_thrown_X4 : ∀ w ∈ u_ws RX4 TX4 27, w ∈ wsX4_thrown := by decide +kernel
set_option maxHeartbeats 4000000 in
set_option maxRecDepth 100000 in
theorem tX4_thrown (l : Launch) (dC : Nat → ClassId) (dI : Nat → Nat → Nat) (cI : ClassId) (h : Nat) (ad : Nat → Nat)  (sz : Nat) (post : Int32 → Prop) (I : Nat → Int32) (R : Nat → Nat → Int32) (hq : qX4_thrown post I R) : Met l yX4_thrown wsX4_thrown ({ frames := 0, cells := 0, slots := 0, locals := 0 } : Room) (va_Pc [.ref h] (wPre (dC, dI) vwCl [(cI, .int)] (wd4 cI h ad I R) sz)) (va_Qi (fun r (_ : Unit) => post r ) (wAt (dC, dI) vwCl [(cI, .int)] (va_A (wd4 cI h ad I R) sz) (fun _ : Unit => wd4 cI h ad I R)) (va_A (wd4 cI h ad I R) sz)) 0 0 (va_A (wd4 cI h ad I R) sz) := by
  unfold qX4_thrown at hq
  refine Met.ofW (cc := cX4_thrown) (maxL := 1) (ret := (some .int)) (by decide) rfl ?_
  intro p e s m args below meth c s₁ B hml hv
  obtain ⟨rfl, hsz, hP, hK, hD0⟩ := hv
  have hx := B.exec
  have hb := B.bytes
  have hr := B.returns
  have hts := atoms_spec (ws := wsX4_thrown) B.pre
  have hown : s.vm.findClass RX4 = some m.cls := findClass_of_methodNamed B.named
  have hlocks := B.notSynchronized
  subst hsz
  have hD := hD0.self (sz := s.heap.size)
  generalize hAe : va_A (wd4 cI h ad I R) s.heap.size = A at hD ⊢
  have hA : ∀ q : Nat, s.heap.size ≤ q → A q := fun q h => by rw [← hAe]; exact Or.inr h
  have hS : va_S A s.heap s.heap [] := va_S.rf
  have hl := lv_entry ([.ref h]) (n := 1) (Nat.le_of_ble_eq_true rfl)
  rw [lg_entry_eq]
  generalize (lg_sl ([.ref h]) ++ List.replicate (1 - (lg_sl ([.ref h])).length) Slot.unset).toArray = ls at hl ⊢
  have hl : lv_has ls 1 [(0, .ref h)] := hl
  refine lv_aload_n hx hb dX4_thrown_0 rfl (lv_at hl 0 rfl) ?_
  refine va_get (D := (dC, dI)) (ci := 4) (v := .int (I 19)) (C := RX4) (T := TX4) (N := 27) hx hb hts nX4_thrown_X4 hown hK hP 0 rfl rfl 19 (by decide) (hts _ mX4_thrown_f71) (fun _ h9 => h9) rfl dX4_thrown_1 ?_
  exact w_iret (post := fun r (_ : Unit) => post r ) (wf := fun _ : Unit => wd4 cI h ad I R) (u := ()) hx hb hr hK hP hD hS hq dX4_thrown_4 hlocks
def zX4_told (post : Int32 → (Nat → Int32) → (Nat → Nat → Int32) → Prop) (p1 : Int32) (p2 : Int32) (X23 : (Nat → Int32) → (Nat → Nat → Int32) → Prop) : Prop :=
  (∀ (I : Nat → Int32) (R : Nat → Nat → Int32), (post (0 : Int32) (va_up I 19 (1 : Int32)) R) → X23 I R)
def qX4_told_23 (post : Int32 → (Nat → Int32) → (Nat → Nat → Int32) → Prop) (p1 : Int32) (p2 : Int32) (I : Nat → Int32) (R : Nat → Nat → Int32) : Prop := ∀ (X23 : (Nat → Int32) → (Nat → Nat → Int32) → Prop), zX4_told post p1 p2 X23 → X23 I R
theorem kX4_told_23 {post : Int32 → (Nat → Int32) → (Nat → Nat → Int32) → Prop} {p1 : Int32} {p2 : Int32} {I : Nat → Int32} {R : Nat → Nat → Int32} (h : post (0 : Int32) (va_up I 19 (1 : Int32)) R) : qX4_told_23 post p1 p2 I R := by
  intro Z23 hcl
  refine hcl I R ?_
  exact h
def qX4_told (post : Int32 → (Nat → Int32) → (Nat → Nat → Int32) → Prop) (p1 : Int32) (p2 : Int32) (I : Nat → Int32) (R : Nat → Nat → Int32) : Prop := ∃ Pc_1 : Int32 → Prop, qX4_isPicture Pc_1 p1 (va_up I 19 (0 : Int32)) R ∧ (∀ (rc_1 : Int32), Pc_1 rc_1 → (((rc_1 = 0) → (qX4_told_23 post p1 p2 (va_up I 19 (0 : Int32)) R)) ∧ ((¬ rc_1 = 0) → (∃ Pc_2 : Int32 → Prop, qX4_in Pc_2 p2 (0 : Int32) (10 : Int32) ∧ (∀ (rc_2 : Int32), Pc_2 rc_2 → (((¬ rc_2 = 0) → (((p2.toInt < 0 ∨ 10 < p2.toInt) → (∃ Pc_3 : Int32 → (Nat → Int32) → (Nat → Nat → Int32) → Prop, qX4_cutOf Pc_3 p1 (va_up I 19 (0 : Int32)) R ∧ (∀ (rc_3 : Int32) (Ic_3 : Nat → Int32) (Rc_3 : Nat → Nat → Int32), Pc_3 rc_3 Ic_3 Rc_3 → (((rc_3 = 0) → (post (-1 : Int32) Ic_3 Rc_3)) ∧ ((¬ rc_3 = 0) → (vp_in (p2 - (6 : Int32)) 4 ∧ (post (Rc_3 20 (p2 - (6 : Int32)).toNatClampNeg) Ic_3 Rc_3))))))) ∧ ((p2 = (0 : Int32)) → (vp_in p1 14 ∧ (post (R 3 p1.toNatClampNeg) (va_up I 19 (0 : Int32)) R))) ∧ ((p2 = (1 : Int32)) → (vp_in p1 14 ∧ (post (R 4 p1.toNatClampNeg) (va_up I 19 (0 : Int32)) R))) ∧ ((p2 = (2 : Int32)) → (vp_in p1 14 ∧ (post (R 5 p1.toNatClampNeg) (va_up I 19 (0 : Int32)) R))) ∧ ((p2 = (3 : Int32)) → (vp_in p1 14 ∧ (post (R 6 p1.toNatClampNeg) (va_up I 19 (0 : Int32)) R))) ∧ ((p2 = (4 : Int32)) → (∃ Pc_9 : Int32 → (Nat → Int32) → (Nat → Nat → Int32) → Prop, qX4_isGood Pc_9 p1 (va_up I 19 (0 : Int32)) R ∧ (∀ (rc_9 : Int32) (Ic_9 : Nat → Int32) (Rc_9 : Nat → Nat → Int32), Pc_9 rc_9 Ic_9 Rc_9 → (((rc_9 = 0) → (post (0 : Int32) Ic_9 Rc_9)) ∧ ((¬ rc_9 = 0) → (post (1 : Int32) Ic_9 Rc_9)))))) ∧ ((p2 = (5 : Int32)) → (∃ Pc_10 : Int32 → (Nat → Int32) → (Nat → Nat → Int32) → Prop, qX4_seenIn Pc_10 p1 (va_up I 19 (0 : Int32)) R ∧ (∀ (rc_10 : Int32) (Ic_10 : Nat → Int32) (Rc_10 : Nat → Nat → Int32), Pc_10 rc_10 Ic_10 Rc_10 → (post rc_10 Ic_10 Rc_10)))) ∧ ((p2 = (6 : Int32)) → (∃ Pc_11 : Int32 → (Nat → Int32) → (Nat → Nat → Int32) → Prop, qX4_cutOf Pc_11 p1 (va_up I 19 (0 : Int32)) R ∧ (∀ (rc_11 : Int32) (Ic_11 : Nat → Int32) (Rc_11 : Nat → Nat → Int32), Pc_11 rc_11 Ic_11 Rc_11 → (((rc_11 = 0) → (post (-1 : Int32) Ic_11 Rc_11)) ∧ ((¬ rc_11 = 0) → (vp_in (p2 - (6 : Int32)) 4 ∧ (post (Rc_11 20 (p2 - (6 : Int32)).toNatClampNeg) Ic_11 Rc_11))))))) ∧ ((p2 = (7 : Int32)) → (∃ Pc_13 : Int32 → (Nat → Int32) → (Nat → Nat → Int32) → Prop, qX4_cutOf Pc_13 p1 (va_up I 19 (0 : Int32)) R ∧ (∀ (rc_13 : Int32) (Ic_13 : Nat → Int32) (Rc_13 : Nat → Nat → Int32), Pc_13 rc_13 Ic_13 Rc_13 → (((rc_13 = 0) → (post (-1 : Int32) Ic_13 Rc_13)) ∧ ((¬ rc_13 = 0) → (vp_in (p2 - (6 : Int32)) 4 ∧ (post (Rc_13 20 (p2 - (6 : Int32)).toNatClampNeg) Ic_13 Rc_13))))))) ∧ ((p2 = (8 : Int32)) → (∃ Pc_15 : Int32 → (Nat → Int32) → (Nat → Nat → Int32) → Prop, qX4_cutOf Pc_15 p1 (va_up I 19 (0 : Int32)) R ∧ (∀ (rc_15 : Int32) (Ic_15 : Nat → Int32) (Rc_15 : Nat → Nat → Int32), Pc_15 rc_15 Ic_15 Rc_15 → (((rc_15 = 0) → (post (-1 : Int32) Ic_15 Rc_15)) ∧ ((¬ rc_15 = 0) → (vp_in (p2 - (6 : Int32)) 4 ∧ (post (Rc_15 20 (p2 - (6 : Int32)).toNatClampNeg) Ic_15 Rc_15))))))) ∧ ((p2 = (9 : Int32)) → (∃ Pc_17 : Int32 → (Nat → Int32) → (Nat → Nat → Int32) → Prop, qX4_cutOf Pc_17 p1 (va_up I 19 (0 : Int32)) R ∧ (∀ (rc_17 : Int32) (Ic_17 : Nat → Int32) (Rc_17 : Nat → Nat → Int32), Pc_17 rc_17 Ic_17 Rc_17 → (((rc_17 = 0) → (post (-1 : Int32) Ic_17 Rc_17)) ∧ ((¬ rc_17 = 0) → (vp_in (p2 - (6 : Int32)) 4 ∧ (post (Rc_17 20 (p2 - (6 : Int32)).toNatClampNeg) Ic_17 Rc_17))))))) ∧ ((p2 = (10 : Int32)) → (∃ Pc_19 : Int32 → Prop, qX4_pageOf Pc_19 p1 (va_up I 19 (0 : Int32)) R ∧ (∀ (rc_19 : Int32), Pc_19 rc_19 → (post rc_19 (va_up I 19 (0 : Int32)) R)))))) ∧ ((rc_2 = 0) → (qX4_told_23 post p1 p2 (va_up I 19 (0 : Int32)) R))))))))
theorem mX4_told_f71 : Cond.fieldLink RX4 71 "YearBookModel" "thrown" "I" ∈ wsX4_told := by decide +kernel
theorem nX4_told_X4 : ∀ w ∈ u_ws RX4 TX4 27, w ∈ wsX4_told := by decide +kernel
theorem mX4_told_f53 : Cond.fieldLink RX4 53 "YearBookModel" "cut" "[I" ∈ wsX4_told := by decide +kernel
theorem mX4_told_f16 : Cond.fieldLink RX4 16 "YearBookModel" "kind" "[I" ∈ wsX4_told := by decide +kernel
theorem mX4_told_f19 : Cond.fieldLink RX4 19 "YearBookModel" "worth" "[I" ∈ wsX4_told := by decide +kernel
theorem mX4_told_f22 : Cond.fieldLink RX4 22 "YearBookModel" "size" "[I" ∈ wsX4_told := by decide +kernel
theorem mX4_told_f25 : Cond.fieldLink RX4 25 "YearBookModel" "faces" "[I" ∈ wsX4_told := by decide +kernel
set_option maxHeartbeats 4000000 in
set_option maxRecDepth 100000 in
theorem tX4_told (l : Launch) (dC : Nat → ClassId) (dI : Nat → Nat → Nat) (cI : ClassId) (h : Nat) (ad : Nat → Nat)  (sz : Nat) (post : Int32 → (Nat → Int32) → (Nat → Nat → Int32) → Prop) (p1 : Int32) (p2 : Int32) (I : Nat → Int32) (R : Nat → Nat → Int32) (hq : qX4_told post p1 p2 I R) : Met l yX4_told wsX4_told ({ frames := 4, cells := 0, slots := 0, locals := 97 } : Room) (va_Pc [.ref h, .int p1, .int p2] (wPre (dC, dI) vwCl [(cI, .int)] (wd4 cI h ad I R) sz)) (va_Qi (fun r (u : (Nat → Int32) × (Nat → Nat → Int32)) => post r u.1 u.2) (wAt (dC, dI) vwCl [(cI, .int)] (va_A (wd4 cI h ad I R) sz) (fun u : (Nat → Int32) × (Nat → Nat → Int32) => wd4 cI h ad u.1 u.2)) (va_A (wd4 cI h ad I R) sz)) 0 0 (va_A (wd4 cI h ad I R) sz) := by
  unfold qX4_told at hq
  refine Met.ofW (cc := cX4_told) (maxL := 3) (ret := (some .int)) (by decide) rfl ?_
  intro p e s m args below meth c s₁ B hml hv
  obtain ⟨rfl, hsz, hP, hK, hD0⟩ := hv
  have hx := B.exec
  have hb := B.bytes
  have hr := B.returns
  have hts := atoms_spec (ws := wsX4_told) B.pre
  have hown : s.vm.findClass RX4 = some m.cls := findClass_of_methodNamed B.named
  have hlocks := B.notSynchronized
  subst hsz
  have hD := hD0.self (sz := s.heap.size)
  generalize hAe : va_A (wd4 cI h ad I R) s.heap.size = A at hD ⊢
  have hA : ∀ q : Nat, s.heap.size ≤ q → A q := fun q h => by rw [← hAe]; exact Or.inr h
  have hS : va_S A s.heap s.heap [] := va_S.rf
  have hZ : zX4_told post p1 p2
      (fun (I : Nat → Int32) (R : Nat → Nat → Int32) => ∀ (H : Heap) (locs : List Loc) (ls : Array Slot), va_P (dC, dI) vwCl (wd4 cI h ad I R) H → va_D A (wd4 cI h ad I R) → va_S A s.heap H locs → lv_has ls 3 [(0, .ref h)] → W p l e (headSpec wsX4_told ({ frames := 4, cells := 0, slots := 0, locals := 97 } : Room)).room s m ([.ref h, .int p1, .int p2] : List Value).toArray below meth c H locs 0 0 (MQ below (va_Qi (fun r (u : (Nat → Int32) × (Nat → Nat → Int32)) => post r u.1 u.2) (wAt (dC, dI) vwCl [(cI, .int)] A (fun u : (Nat → Int32) × (Nat → Nat → Int32) => wd4 cI h ad u.1 u.2)) A) ([.ref h, .int p1, .int p2] : List Value).toArray s 0 0 A) (F0 m 23 ls [])) := by
    unfold zX4_told
    intro I R hq H locs ls hP hD hS hl
    refine lv_aload_n hx hb dX4_told_23 rfl (lv_at hl 0 rfl) ?_
    refine lv_iconst (v := (1 : Int32)) hx hb dX4_told_24 (by decide) ?_
    refine va_put (D := (dC, dI)) (ci := 4) (v := .int (1 : Int32)) (ty := .int) (C := RX4) (T := TX4) (N := 27) hx hb hts nX4_told_X4 tyX4 tyX4_ok nmX4 hown hK hP hD hS 0 rfl rfl 19 (by decide) (hts _ mX4_told_f71) (fun _ h9 => h9) rfl (by decide +kernel) rfl rfl (Nat.le_of_ble_eq_true rfl) dX4_told_25 (fun H locs hP hD hS => ?_)
    rw [wd4_I19] at hP hD
    refine lv_iconst (v := (0 : Int32)) hx hb dX4_told_28 (by decide) ?_
    exact w_iret (post := fun r (u : (Nat → Int32) × (Nat → Nat → Int32)) => post r u.1 u.2) (wf := fun u : (Nat → Int32) × (Nat → Nat → Int32) => wd4 cI h ad u.1 u.2) (u := (va_up I 19 (1 : Int32), R)) hx hb hr hK hP hD hS hq dX4_told_29 hlocks
  have hl := lv_entry ([.ref h, .int p1, .int p2]) (n := 3) (Nat.le_of_ble_eq_true rfl)
  rw [lg_entry_eq]
  generalize (lg_sl ([.ref h, .int p1, .int p2]) ++ List.replicate (3 - (lg_sl ([.ref h, .int p1, .int p2])).length) Slot.unset).toArray = ls at hl ⊢
  have hl : lv_has ls 3 [(0, .ref h), (1, .int p1), (2, .int p2)] := hl
  refine lv_aload_n hx hb dX4_told_0 rfl (lv_at hl 0 rfl) ?_
  refine lv_iconst (v := (0 : Int32)) hx hb dX4_told_1 (by decide) ?_
  refine va_put (D := (dC, dI)) (ci := 4) (v := .int (0 : Int32)) (ty := .int) (C := RX4) (T := TX4) (N := 27) hx hb hts nX4_told_X4 tyX4 tyX4_ok nmX4 hown hK hP hD hS 0 rfl rfl 19 (by decide) (hts _ mX4_told_f71) (fun _ h9 => h9) rfl (by decide +kernel) rfl rfl (Nat.le_of_ble_eq_true rfl) dX4_told_2 (fun H locs hP hD hS => ?_)
  rw [wd4_I19] at hP hD
  refine lv_aload_n hx hb dX4_told_5 rfl (lv_at hl 0 rfl) ?_
  refine lv_iload_n hx hb dX4_told_6 rfl (lv_at hl 1 rfl) ?_
  obtain ⟨Pc_1, hc, hq⟩ := hq
  refine w_calli (wf := fun _ : Unit => wd4 cI h ad (va_up I 19 (0 : Int32)) R) (va_runV (As := [.int p1]) (rest := []) ⟨hx, hb, hml, hown, hts⟩ (tX4_isPicture l dC dI cI h ad _ Pc_1 p1 (va_up I 19 (0 : Int32)) R hc) (cwV 1 hts gX4_told_X4_isPicture rfl rfl rfl (by decide +kernel) ⟨Nat.le_of_ble_eq_true rfl, Nat.le_of_ble_eq_true rfl⟩) (wPreV hK hP hD (ci := 4) (q0 := 0) rfl rfl) rfl rfl hl.1 rfl (lv_room (Nat.le_of_ble_eq_true rfl)) dX4_told_7 ⟨Nat.le_of_ble_eq_true rfl, Nat.le_of_ble_eq_true rfl⟩) hD hS hA (fun rc_1 u H locs hp hP hD hS => ?_)
  have hq := hq rc_1 hp
  have hP : va_P (dC, dI) vwCl (wd4 cI h ad (va_up I 19 (0 : Int32)) R) H := hP
  have hD : va_D A (wd4 cI h ad (va_up I 19 (0 : Int32)) R) := hD
  refine lv_if_eq (tgt := 23) hx hb dX4_told_10 (by decide) (fun hc => ?_) (fun hc => ?_)
  · have hq := hq.1 hc
    exact hq _ hZ _ _ ls hP hD hS (lv_sub hl [0] rfl)
  · have hq := hq.2 hc
    refine lv_iload_n hx hb dX4_told_13 rfl (lv_at hl 2 rfl) ?_
    refine lv_iconst (v := (0 : Int32)) hx hb dX4_told_14 (by decide) ?_
    refine lv_bipush (v := (10 : Int32)) hx hb dX4_told_15 (by decide) ?_
    obtain ⟨Pc_2, hc, hq⟩ := hq
    refine vp_callSi (W.runS (As := [.int p2, .int (0 : Int32), .int (10 : Int32)]) (rest := []) ⟨hx, hb, hml, hown, hts⟩ (tX4_in l Pc_2 p2 (0 : Int32) (10 : Int32) hc) (va_cwS 3 hts gX4_told_X4_in rfl rfl rfl (by decide +kernel) ⟨Nat.le_of_ble_eq_true rfl, Nat.le_of_ble_eq_true rfl⟩) preEq rfl rfl hl.1 rfl (lv_room (Nat.le_of_ble_eq_true rfl)) dX4_told_17 ⟨Nat.le_of_ble_eq_true rfl, Nat.le_of_ble_eq_true rfl⟩) (fun rc_2 hp => ?_)
    have hq := hq rc_2 hp
    refine lv_if_ne (tgt := 30) hx hb dX4_told_20 (by decide) (fun hc => ?_) (fun hc => ?_)
    · have hq := hq.1 hc
      refine lv_iload_n hx hb dX4_told_30 rfl (lv_at hl 2 rfl) ?_
      by_cases g0 : p2 = (0 : Int32)
      · have hq := hq.2.1 g0
        refine lv_tableIn (off := 57) (tgt := 88) hx hb dX4_told_31 (by rw [g0]; decide) (by rw [g0]; decide) (by rw [g0]; rfl) (by decide) ?_
        refine lv_aload_n hx hb dX4_told_88 rfl (lv_at hl 0 rfl) ?_
        refine va_get (D := (dC, dI)) (ci := 4) (v := .ref (ad 3)) (C := RX4) (T := TX4) (N := 27) hx hb hts nX4_told_X4 hown hK hP 0 rfl rfl 3 (by decide) (hts _ mX4_told_f16) (fun _ h9 => h9) rfl dX4_told_89 ?_
        refine lv_iload_n hx hb dX4_told_92 rfl (lv_at hl 1 rfl) ?_
        obtain ⟨hi_5, hq⟩ := hq
        refine va_iald (f := R 3) hx hb hK hP 3 0 rfl rfl hi_5 dX4_told_93 ?_
        exact w_iret (post := fun r (u : (Nat → Int32) × (Nat → Nat → Int32)) => post r u.1 u.2) (wf := fun u : (Nat → Int32) × (Nat → Nat → Int32) => wd4 cI h ad u.1 u.2) (u := (va_up I 19 (0 : Int32), R)) hx hb hr hK hP hD hS hq dX4_told_94 hlocks
      by_cases g1 : p2 = (1 : Int32)
      · have hq := hq.2.2.1 g1
        refine lv_tableIn (off := 64) (tgt := 95) hx hb dX4_told_31 (by rw [g1]; decide) (by rw [g1]; decide) (by rw [g1]; rfl) (by decide) ?_
        refine lv_aload_n hx hb dX4_told_95 rfl (lv_at hl 0 rfl) ?_
        refine va_get (D := (dC, dI)) (ci := 4) (v := .ref (ad 4)) (C := RX4) (T := TX4) (N := 27) hx hb hts nX4_told_X4 hown hK hP 0 rfl rfl 4 (by decide) (hts _ mX4_told_f19) (fun _ h9 => h9) rfl dX4_told_96 ?_
        refine lv_iload_n hx hb dX4_told_99 rfl (lv_at hl 1 rfl) ?_
        obtain ⟨hi_6, hq⟩ := hq
        refine va_iald (f := R 4) hx hb hK hP 4 0 rfl rfl hi_6 dX4_told_100 ?_
        exact w_iret (post := fun r (u : (Nat → Int32) × (Nat → Nat → Int32)) => post r u.1 u.2) (wf := fun u : (Nat → Int32) × (Nat → Nat → Int32) => wd4 cI h ad u.1 u.2) (u := (va_up I 19 (0 : Int32), R)) hx hb hr hK hP hD hS hq dX4_told_101 hlocks
      by_cases g2 : p2 = (2 : Int32)
      · have hq := hq.2.2.2.1 g2
        refine lv_tableIn (off := 71) (tgt := 102) hx hb dX4_told_31 (by rw [g2]; decide) (by rw [g2]; decide) (by rw [g2]; rfl) (by decide) ?_
        refine lv_aload_n hx hb dX4_told_102 rfl (lv_at hl 0 rfl) ?_
        refine va_get (D := (dC, dI)) (ci := 4) (v := .ref (ad 5)) (C := RX4) (T := TX4) (N := 27) hx hb hts nX4_told_X4 hown hK hP 0 rfl rfl 5 (by decide) (hts _ mX4_told_f22) (fun _ h9 => h9) rfl dX4_told_103 ?_
        refine lv_iload_n hx hb dX4_told_106 rfl (lv_at hl 1 rfl) ?_
        obtain ⟨hi_7, hq⟩ := hq
        refine va_iald (f := R 5) hx hb hK hP 5 0 rfl rfl hi_7 dX4_told_107 ?_
        exact w_iret (post := fun r (u : (Nat → Int32) × (Nat → Nat → Int32)) => post r u.1 u.2) (wf := fun u : (Nat → Int32) × (Nat → Nat → Int32) => wd4 cI h ad u.1 u.2) (u := (va_up I 19 (0 : Int32), R)) hx hb hr hK hP hD hS hq dX4_told_108 hlocks
      by_cases g3 : p2 = (3 : Int32)
      · have hq := hq.2.2.2.2.1 g3
        refine lv_tableIn (off := 78) (tgt := 109) hx hb dX4_told_31 (by rw [g3]; decide) (by rw [g3]; decide) (by rw [g3]; rfl) (by decide) ?_
        refine lv_aload_n hx hb dX4_told_109 rfl (lv_at hl 0 rfl) ?_
        refine va_get (D := (dC, dI)) (ci := 4) (v := .ref (ad 6)) (C := RX4) (T := TX4) (N := 27) hx hb hts nX4_told_X4 hown hK hP 0 rfl rfl 6 (by decide) (hts _ mX4_told_f25) (fun _ h9 => h9) rfl dX4_told_110 ?_
        refine lv_iload_n hx hb dX4_told_113 rfl (lv_at hl 1 rfl) ?_
        obtain ⟨hi_8, hq⟩ := hq
        refine va_iald (f := R 6) hx hb hK hP 6 0 rfl rfl hi_8 dX4_told_114 ?_
        exact w_iret (post := fun r (u : (Nat → Int32) × (Nat → Nat → Int32)) => post r u.1 u.2) (wf := fun u : (Nat → Int32) × (Nat → Nat → Int32) => wd4 cI h ad u.1 u.2) (u := (va_up I 19 (0 : Int32), R)) hx hb hr hK hP hD hS hq dX4_told_115 hlocks
      by_cases g4 : p2 = (4 : Int32)
      · have hq := hq.2.2.2.2.2.1 g4
        refine lv_tableIn (off := 85) (tgt := 116) hx hb dX4_told_31 (by rw [g4]; decide) (by rw [g4]; decide) (by rw [g4]; rfl) (by decide) ?_
        refine lv_aload_n hx hb dX4_told_116 rfl (lv_at hl 0 rfl) ?_
        refine lv_iload_n hx hb dX4_told_117 rfl (lv_at hl 1 rfl) ?_
        obtain ⟨Pc_9, hc, hq⟩ := hq
        refine w_calli (wf := fun u : (Nat → Int32) × (Nat → Nat → Int32) => wd4 cI h ad u.1 u.2) (va_runV (As := [.int p1]) (rest := []) ⟨hx, hb, hml, hown, hts⟩ (tX4_isGood l dC dI cI h ad _ Pc_9 p1 (va_up I 19 (0 : Int32)) R hc) (cwV 1 hts gX4_told_X4_isGood rfl rfl rfl (by decide +kernel) ⟨Nat.le_of_ble_eq_true rfl, Nat.le_of_ble_eq_true rfl⟩) (wPreV hK hP hD (ci := 4) (q0 := 0) rfl rfl) rfl rfl hl.1 rfl (lv_room (Nat.le_of_ble_eq_true rfl)) dX4_told_118 ⟨Nat.le_of_ble_eq_true rfl, Nat.le_of_ble_eq_true rfl⟩) hD hS hA (fun rc_9 u H locs hp hP hD hS => ?_)
        obtain ⟨Ic_9, Rc_9⟩ := u
        have hq := hq rc_9 Ic_9 Rc_9 hp
        have hP : va_P (dC, dI) vwCl (wd4 cI h ad Ic_9 Rc_9) H := hP
        have hD : va_D A (wd4 cI h ad Ic_9 Rc_9) := hD
        refine lv_if_eq (tgt := 128) hx hb dX4_told_121 (by decide) (fun hc => ?_) (fun hc => ?_)
        · have hq := hq.1 hc
          refine lv_iconst (v := (0 : Int32)) hx hb dX4_told_128 (by decide) ?_
          exact w_iret (post := fun r (u : (Nat → Int32) × (Nat → Nat → Int32)) => post r u.1 u.2) (wf := fun u : (Nat → Int32) × (Nat → Nat → Int32) => wd4 cI h ad u.1 u.2) (u := (Ic_9, Rc_9)) hx hb hr hK hP hD hS hq dX4_told_129 hlocks
        · have hq := hq.2 hc
          refine lv_iconst (v := (1 : Int32)) hx hb dX4_told_124 (by decide) ?_
          refine lv_goto (tgt := 129) hx hb dX4_told_125 (by decide) ?_
          exact w_iret (post := fun r (u : (Nat → Int32) × (Nat → Nat → Int32)) => post r u.1 u.2) (wf := fun u : (Nat → Int32) × (Nat → Nat → Int32) => wd4 cI h ad u.1 u.2) (u := (Ic_9, Rc_9)) hx hb hr hK hP hD hS hq dX4_told_129 hlocks
      by_cases g5 : p2 = (5 : Int32)
      · have hq := hq.2.2.2.2.2.2.1 g5
        refine lv_tableIn (off := 99) (tgt := 130) hx hb dX4_told_31 (by rw [g5]; decide) (by rw [g5]; decide) (by rw [g5]; rfl) (by decide) ?_
        refine lv_aload_n hx hb dX4_told_130 rfl (lv_at hl 0 rfl) ?_
        refine lv_iload_n hx hb dX4_told_131 rfl (lv_at hl 1 rfl) ?_
        obtain ⟨Pc_10, hc, hq⟩ := hq
        refine w_calli (wf := fun u : (Nat → Int32) × (Nat → Nat → Int32) => wd4 cI h ad u.1 u.2) (va_runV (As := [.int p1]) (rest := []) ⟨hx, hb, hml, hown, hts⟩ (tX4_seenIn l dC dI cI h ad _ Pc_10 p1 (va_up I 19 (0 : Int32)) R hc) (cwV 1 hts gX4_told_X4_seenIn rfl rfl rfl (by decide +kernel) ⟨Nat.le_of_ble_eq_true rfl, Nat.le_of_ble_eq_true rfl⟩) (wPreV hK hP hD (ci := 4) (q0 := 0) rfl rfl) rfl rfl hl.1 rfl (lv_room (Nat.le_of_ble_eq_true rfl)) dX4_told_132 ⟨Nat.le_of_ble_eq_true rfl, Nat.le_of_ble_eq_true rfl⟩) hD hS hA (fun rc_10 u H locs hp hP hD hS => ?_)
        obtain ⟨Ic_10, Rc_10⟩ := u
        have hq := hq rc_10 Ic_10 Rc_10 hp
        have hP : va_P (dC, dI) vwCl (wd4 cI h ad Ic_10 Rc_10) H := hP
        have hD : va_D A (wd4 cI h ad Ic_10 Rc_10) := hD
        exact w_iret (post := fun r (u : (Nat → Int32) × (Nat → Nat → Int32)) => post r u.1 u.2) (wf := fun u : (Nat → Int32) × (Nat → Nat → Int32) => wd4 cI h ad u.1 u.2) (u := (Ic_10, Rc_10)) hx hb hr hK hP hD hS hq dX4_told_135 hlocks
      by_cases g6 : p2 = (6 : Int32)
      · have hq := hq.2.2.2.2.2.2.2.1 g6
        refine lv_tableIn (off := 111) (tgt := 142) hx hb dX4_told_31 (by rw [g6]; decide) (by rw [g6]; decide) (by rw [g6]; rfl) (by decide) ?_
        refine lv_aload_n hx hb dX4_told_142 rfl (lv_at hl 0 rfl) ?_
        refine lv_iload_n hx hb dX4_told_143 rfl (lv_at hl 1 rfl) ?_
        obtain ⟨Pc_11, hc, hq⟩ := hq
        refine w_calli (wf := fun u : (Nat → Int32) × (Nat → Nat → Int32) => wd4 cI h ad u.1 u.2) (va_runV (As := [.int p1]) (rest := []) ⟨hx, hb, hml, hown, hts⟩ (tX4_cutOf l dC dI cI h ad _ Pc_11 p1 (va_up I 19 (0 : Int32)) R hc) (cwV 1 hts gX4_told_X4_cutOf rfl rfl rfl (by decide +kernel) ⟨Nat.le_of_ble_eq_true rfl, Nat.le_of_ble_eq_true rfl⟩) (wPreV hK hP hD (ci := 4) (q0 := 0) rfl rfl) rfl rfl hl.1 rfl (lv_room (Nat.le_of_ble_eq_true rfl)) dX4_told_144 ⟨Nat.le_of_ble_eq_true rfl, Nat.le_of_ble_eq_true rfl⟩) hD hS hA (fun rc_11 u H locs hp hP hD hS => ?_)
        obtain ⟨Ic_11, Rc_11⟩ := u
        have hq := hq rc_11 Ic_11 Rc_11 hp
        have hP : va_P (dC, dI) vwCl (wd4 cI h ad Ic_11 Rc_11) H := hP
        have hD : va_D A (wd4 cI h ad Ic_11 Rc_11) := hD
        refine lv_if_eq (tgt := 162) hx hb dX4_told_147 (by decide) (fun hc => ?_) (fun hc => ?_)
        · have hq := hq.1 hc
          refine lv_iconst (v := (-1 : Int32)) hx hb dX4_told_162 (by decide) ?_
          exact w_iret (post := fun r (u : (Nat → Int32) × (Nat → Nat → Int32)) => post r u.1 u.2) (wf := fun u : (Nat → Int32) × (Nat → Nat → Int32) => wd4 cI h ad u.1 u.2) (u := (Ic_11, Rc_11)) hx hb hr hK hP hD hS hq dX4_told_163 hlocks
        · have hq := hq.2 hc
          refine lv_aload_n hx hb dX4_told_150 rfl (lv_at hl 0 rfl) ?_
          refine va_get (D := (dC, dI)) (ci := 4) (v := .ref (ad 20)) (C := RX4) (T := TX4) (N := 27) hx hb hts nX4_told_X4 hown hK hP 0 rfl rfl 20 (by decide) (hts _ mX4_told_f53) (fun _ h9 => h9) rfl dX4_told_151 ?_
          refine lv_iload_n hx hb dX4_told_154 rfl (lv_at hl 2 rfl) ?_
          refine lv_bipush (v := (6 : Int32)) hx hb dX4_told_155 (by decide) ?_
          refine lv_isub hx hb dX4_told_157 ?_
          obtain ⟨hi_12, hq⟩ := hq
          refine va_iald (f := Rc_11 20) hx hb hK hP 12 0 rfl rfl hi_12 dX4_told_158 ?_
          refine lv_goto (tgt := 163) hx hb dX4_told_159 (by decide) ?_
          exact w_iret (post := fun r (u : (Nat → Int32) × (Nat → Nat → Int32)) => post r u.1 u.2) (wf := fun u : (Nat → Int32) × (Nat → Nat → Int32) => wd4 cI h ad u.1 u.2) (u := (Ic_11, Rc_11)) hx hb hr hK hP hD hS hq dX4_told_163 hlocks
      by_cases g7 : p2 = (7 : Int32)
      · have hq := hq.2.2.2.2.2.2.2.2.1 g7
        refine lv_tableIn (off := 111) (tgt := 142) hx hb dX4_told_31 (by rw [g7]; decide) (by rw [g7]; decide) (by rw [g7]; rfl) (by decide) ?_
        refine lv_aload_n hx hb dX4_told_142 rfl (lv_at hl 0 rfl) ?_
        refine lv_iload_n hx hb dX4_told_143 rfl (lv_at hl 1 rfl) ?_
        obtain ⟨Pc_13, hc, hq⟩ := hq
        refine w_calli (wf := fun u : (Nat → Int32) × (Nat → Nat → Int32) => wd4 cI h ad u.1 u.2) (va_runV (As := [.int p1]) (rest := []) ⟨hx, hb, hml, hown, hts⟩ (tX4_cutOf l dC dI cI h ad _ Pc_13 p1 (va_up I 19 (0 : Int32)) R hc) (cwV 1 hts gX4_told_X4_cutOf rfl rfl rfl (by decide +kernel) ⟨Nat.le_of_ble_eq_true rfl, Nat.le_of_ble_eq_true rfl⟩) (wPreV hK hP hD (ci := 4) (q0 := 0) rfl rfl) rfl rfl hl.1 rfl (lv_room (Nat.le_of_ble_eq_true rfl)) dX4_told_144 ⟨Nat.le_of_ble_eq_true rfl, Nat.le_of_ble_eq_true rfl⟩) hD hS hA (fun rc_13 u H locs hp hP hD hS => ?_)
        obtain ⟨Ic_13, Rc_13⟩ := u
        have hq := hq rc_13 Ic_13 Rc_13 hp
        have hP : va_P (dC, dI) vwCl (wd4 cI h ad Ic_13 Rc_13) H := hP
        have hD : va_D A (wd4 cI h ad Ic_13 Rc_13) := hD
        refine lv_if_eq (tgt := 162) hx hb dX4_told_147 (by decide) (fun hc => ?_) (fun hc => ?_)
        · have hq := hq.1 hc
          refine lv_iconst (v := (-1 : Int32)) hx hb dX4_told_162 (by decide) ?_
          exact w_iret (post := fun r (u : (Nat → Int32) × (Nat → Nat → Int32)) => post r u.1 u.2) (wf := fun u : (Nat → Int32) × (Nat → Nat → Int32) => wd4 cI h ad u.1 u.2) (u := (Ic_13, Rc_13)) hx hb hr hK hP hD hS hq dX4_told_163 hlocks
        · have hq := hq.2 hc
          refine lv_aload_n hx hb dX4_told_150 rfl (lv_at hl 0 rfl) ?_
          refine va_get (D := (dC, dI)) (ci := 4) (v := .ref (ad 20)) (C := RX4) (T := TX4) (N := 27) hx hb hts nX4_told_X4 hown hK hP 0 rfl rfl 20 (by decide) (hts _ mX4_told_f53) (fun _ h9 => h9) rfl dX4_told_151 ?_
          refine lv_iload_n hx hb dX4_told_154 rfl (lv_at hl 2 rfl) ?_
          refine lv_bipush (v := (6 : Int32)) hx hb dX4_told_155 (by decide) ?_
          refine lv_isub hx hb dX4_told_157 ?_
          obtain ⟨hi_14, hq⟩ := hq
          refine va_iald (f := Rc_13 20) hx hb hK hP 12 0 rfl rfl hi_14 dX4_told_158 ?_
          refine lv_goto (tgt := 163) hx hb dX4_told_159 (by decide) ?_
          exact w_iret (post := fun r (u : (Nat → Int32) × (Nat → Nat → Int32)) => post r u.1 u.2) (wf := fun u : (Nat → Int32) × (Nat → Nat → Int32) => wd4 cI h ad u.1 u.2) (u := (Ic_13, Rc_13)) hx hb hr hK hP hD hS hq dX4_told_163 hlocks
      by_cases g8 : p2 = (8 : Int32)
      · have hq := hq.2.2.2.2.2.2.2.2.2.1 g8
        refine lv_tableIn (off := 111) (tgt := 142) hx hb dX4_told_31 (by rw [g8]; decide) (by rw [g8]; decide) (by rw [g8]; rfl) (by decide) ?_
        refine lv_aload_n hx hb dX4_told_142 rfl (lv_at hl 0 rfl) ?_
        refine lv_iload_n hx hb dX4_told_143 rfl (lv_at hl 1 rfl) ?_
        obtain ⟨Pc_15, hc, hq⟩ := hq
        refine w_calli (wf := fun u : (Nat → Int32) × (Nat → Nat → Int32) => wd4 cI h ad u.1 u.2) (va_runV (As := [.int p1]) (rest := []) ⟨hx, hb, hml, hown, hts⟩ (tX4_cutOf l dC dI cI h ad _ Pc_15 p1 (va_up I 19 (0 : Int32)) R hc) (cwV 1 hts gX4_told_X4_cutOf rfl rfl rfl (by decide +kernel) ⟨Nat.le_of_ble_eq_true rfl, Nat.le_of_ble_eq_true rfl⟩) (wPreV hK hP hD (ci := 4) (q0 := 0) rfl rfl) rfl rfl hl.1 rfl (lv_room (Nat.le_of_ble_eq_true rfl)) dX4_told_144 ⟨Nat.le_of_ble_eq_true rfl, Nat.le_of_ble_eq_true rfl⟩) hD hS hA (fun rc_15 u H locs hp hP hD hS => ?_)
        obtain ⟨Ic_15, Rc_15⟩ := u
        have hq := hq rc_15 Ic_15 Rc_15 hp
        have hP : va_P (dC, dI) vwCl (wd4 cI h ad Ic_15 Rc_15) H := hP
        have hD : va_D A (wd4 cI h ad Ic_15 Rc_15) := hD
        refine lv_if_eq (tgt := 162) hx hb dX4_told_147 (by decide) (fun hc => ?_) (fun hc => ?_)
        · have hq := hq.1 hc
          refine lv_iconst (v := (-1 : Int32)) hx hb dX4_told_162 (by decide) ?_
          exact w_iret (post := fun r (u : (Nat → Int32) × (Nat → Nat → Int32)) => post r u.1 u.2) (wf := fun u : (Nat → Int32) × (Nat → Nat → Int32) => wd4 cI h ad u.1 u.2) (u := (Ic_15, Rc_15)) hx hb hr hK hP hD hS hq dX4_told_163 hlocks
        · have hq := hq.2 hc
          refine lv_aload_n hx hb dX4_told_150 rfl (lv_at hl 0 rfl) ?_
          refine va_get (D := (dC, dI)) (ci := 4) (v := .ref (ad 20)) (C := RX4) (T := TX4) (N := 27) hx hb hts nX4_told_X4 hown hK hP 0 rfl rfl 20 (by decide) (hts _ mX4_told_f53) (fun _ h9 => h9) rfl dX4_told_151 ?_
          refine lv_iload_n hx hb dX4_told_154 rfl (lv_at hl 2 rfl) ?_
          refine lv_bipush (v := (6 : Int32)) hx hb dX4_told_155 (by decide) ?_
          refine lv_isub hx hb dX4_told_157 ?_
          obtain ⟨hi_16, hq⟩ := hq
          refine va_iald (f := Rc_15 20) hx hb hK hP 12 0 rfl rfl hi_16 dX4_told_158 ?_
          refine lv_goto (tgt := 163) hx hb dX4_told_159 (by decide) ?_
          exact w_iret (post := fun r (u : (Nat → Int32) × (Nat → Nat → Int32)) => post r u.1 u.2) (wf := fun u : (Nat → Int32) × (Nat → Nat → Int32) => wd4 cI h ad u.1 u.2) (u := (Ic_15, Rc_15)) hx hb hr hK hP hD hS hq dX4_told_163 hlocks
      by_cases g9 : p2 = (9 : Int32)
      · have hq := hq.2.2.2.2.2.2.2.2.2.2.1 g9
        refine lv_tableIn (off := 111) (tgt := 142) hx hb dX4_told_31 (by rw [g9]; decide) (by rw [g9]; decide) (by rw [g9]; rfl) (by decide) ?_
        refine lv_aload_n hx hb dX4_told_142 rfl (lv_at hl 0 rfl) ?_
        refine lv_iload_n hx hb dX4_told_143 rfl (lv_at hl 1 rfl) ?_
        obtain ⟨Pc_17, hc, hq⟩ := hq
        refine w_calli (wf := fun u : (Nat → Int32) × (Nat → Nat → Int32) => wd4 cI h ad u.1 u.2) (va_runV (As := [.int p1]) (rest := []) ⟨hx, hb, hml, hown, hts⟩ (tX4_cutOf l dC dI cI h ad _ Pc_17 p1 (va_up I 19 (0 : Int32)) R hc) (cwV 1 hts gX4_told_X4_cutOf rfl rfl rfl (by decide +kernel) ⟨Nat.le_of_ble_eq_true rfl, Nat.le_of_ble_eq_true rfl⟩) (wPreV hK hP hD (ci := 4) (q0 := 0) rfl rfl) rfl rfl hl.1 rfl (lv_room (Nat.le_of_ble_eq_true rfl)) dX4_told_144 ⟨Nat.le_of_ble_eq_true rfl, Nat.le_of_ble_eq_true rfl⟩) hD hS hA (fun rc_17 u H locs hp hP hD hS => ?_)
        obtain ⟨Ic_17, Rc_17⟩ := u
        have hq := hq rc_17 Ic_17 Rc_17 hp
        have hP : va_P (dC, dI) vwCl (wd4 cI h ad Ic_17 Rc_17) H := hP
        have hD : va_D A (wd4 cI h ad Ic_17 Rc_17) := hD
        refine lv_if_eq (tgt := 162) hx hb dX4_told_147 (by decide) (fun hc => ?_) (fun hc => ?_)
        · have hq := hq.1 hc
          refine lv_iconst (v := (-1 : Int32)) hx hb dX4_told_162 (by decide) ?_
          exact w_iret (post := fun r (u : (Nat → Int32) × (Nat → Nat → Int32)) => post r u.1 u.2) (wf := fun u : (Nat → Int32) × (Nat → Nat → Int32) => wd4 cI h ad u.1 u.2) (u := (Ic_17, Rc_17)) hx hb hr hK hP hD hS hq dX4_told_163 hlocks
        · have hq := hq.2 hc
          refine lv_aload_n hx hb dX4_told_150 rfl (lv_at hl 0 rfl) ?_
          refine va_get (D := (dC, dI)) (ci := 4) (v := .ref (ad 20)) (C := RX4) (T := TX4) (N := 27) hx hb hts nX4_told_X4 hown hK hP 0 rfl rfl 20 (by decide) (hts _ mX4_told_f53) (fun _ h9 => h9) rfl dX4_told_151 ?_
          refine lv_iload_n hx hb dX4_told_154 rfl (lv_at hl 2 rfl) ?_
          refine lv_bipush (v := (6 : Int32)) hx hb dX4_told_155 (by decide) ?_
          refine lv_isub hx hb dX4_told_157 ?_
          obtain ⟨hi_18, hq⟩ := hq
          refine va_iald (f := Rc_17 20) hx hb hK hP 12 0 rfl rfl hi_18 dX4_told_158 ?_
          refine lv_goto (tgt := 163) hx hb dX4_told_159 (by decide) ?_
          exact w_iret (post := fun r (u : (Nat → Int32) × (Nat → Nat → Int32)) => post r u.1 u.2) (wf := fun u : (Nat → Int32) × (Nat → Nat → Int32) => wd4 cI h ad u.1 u.2) (u := (Ic_17, Rc_17)) hx hb hr hK hP hD hS hq dX4_told_163 hlocks
      by_cases g10 : p2 = (10 : Int32)
      · have hq := hq.2.2.2.2.2.2.2.2.2.2.2 g10
        refine lv_tableIn (off := 105) (tgt := 136) hx hb dX4_told_31 (by rw [g10]; decide) (by rw [g10]; decide) (by rw [g10]; rfl) (by decide) ?_
        refine lv_aload_n hx hb dX4_told_136 rfl (lv_at hl 0 rfl) ?_
        refine lv_iload_n hx hb dX4_told_137 rfl (lv_at hl 1 rfl) ?_
        obtain ⟨Pc_19, hc, hq⟩ := hq
        refine w_calli (wf := fun _ : Unit => wd4 cI h ad (va_up I 19 (0 : Int32)) R) (va_runV (As := [.int p1]) (rest := []) ⟨hx, hb, hml, hown, hts⟩ (tX4_pageOf l dC dI cI h ad _ Pc_19 p1 (va_up I 19 (0 : Int32)) R hc) (cwV 1 hts gX4_told_X4_pageOf rfl rfl rfl (by decide +kernel) ⟨Nat.le_of_ble_eq_true rfl, Nat.le_of_ble_eq_true rfl⟩) (wPreV hK hP hD (ci := 4) (q0 := 0) rfl rfl) rfl rfl hl.1 rfl (lv_room (Nat.le_of_ble_eq_true rfl)) dX4_told_138 ⟨Nat.le_of_ble_eq_true rfl, Nat.le_of_ble_eq_true rfl⟩) hD hS hA (fun rc_19 u H locs hp hP hD hS => ?_)
        have hq := hq rc_19 hp
        have hP : va_P (dC, dI) vwCl (wd4 cI h ad (va_up I 19 (0 : Int32)) R) H := hP
        have hD : va_D A (wd4 cI h ad (va_up I 19 (0 : Int32)) R) := hD
        exact w_iret (post := fun r (u : (Nat → Int32) × (Nat → Nat → Int32)) => post r u.1 u.2) (wf := fun u : (Nat → Int32) × (Nat → Nat → Int32) => wd4 cI h ad u.1 u.2) (u := (va_up I 19 (0 : Int32), R)) hx hb hr hK hP hD hS hq dX4_told_141 hlocks
      have g0 : p2.toInt ≠ 0 := ne_toInt g0
      have g1 : p2.toInt ≠ 1 := ne_toInt g1
      have g2 : p2.toInt ≠ 2 := ne_toInt g2
      have g3 : p2.toInt ≠ 3 := ne_toInt g3
      have g4 : p2.toInt ≠ 4 := ne_toInt g4
      have g5 : p2.toInt ≠ 5 := ne_toInt g5
      have g6 : p2.toInt ≠ 6 := ne_toInt g6
      have g7 : p2.toInt ≠ 7 := ne_toInt g7
      have g8 : p2.toInt ≠ 8 := ne_toInt g8
      have g9 : p2.toInt ≠ 9 := ne_toInt g9
      have g10 : p2.toInt ≠ 10 := ne_toInt g10
      have hc : p2.toInt < 0 ∨ 10 < p2.toInt := by omega
      have hq := hq.1 hc
      refine lv_tableOut (tgt := 142) hx hb dX4_told_31 hc (by decide) ?_
      refine lv_aload_n hx hb dX4_told_142 rfl (lv_at hl 0 rfl) ?_
      refine lv_iload_n hx hb dX4_told_143 rfl (lv_at hl 1 rfl) ?_
      obtain ⟨Pc_3, hc, hq⟩ := hq
      refine w_calli (wf := fun u : (Nat → Int32) × (Nat → Nat → Int32) => wd4 cI h ad u.1 u.2) (va_runV (As := [.int p1]) (rest := []) ⟨hx, hb, hml, hown, hts⟩ (tX4_cutOf l dC dI cI h ad _ Pc_3 p1 (va_up I 19 (0 : Int32)) R hc) (cwV 1 hts gX4_told_X4_cutOf rfl rfl rfl (by decide +kernel) ⟨Nat.le_of_ble_eq_true rfl, Nat.le_of_ble_eq_true rfl⟩) (wPreV hK hP hD (ci := 4) (q0 := 0) rfl rfl) rfl rfl hl.1 rfl (lv_room (Nat.le_of_ble_eq_true rfl)) dX4_told_144 ⟨Nat.le_of_ble_eq_true rfl, Nat.le_of_ble_eq_true rfl⟩) hD hS hA (fun rc_3 u H locs hp hP hD hS => ?_)
      obtain ⟨Ic_3, Rc_3⟩ := u
      have hq := hq rc_3 Ic_3 Rc_3 hp
      have hP : va_P (dC, dI) vwCl (wd4 cI h ad Ic_3 Rc_3) H := hP
      have hD : va_D A (wd4 cI h ad Ic_3 Rc_3) := hD
      refine lv_if_eq (tgt := 162) hx hb dX4_told_147 (by decide) (fun hc => ?_) (fun hc => ?_)
      · have hq := hq.1 hc
        refine lv_iconst (v := (-1 : Int32)) hx hb dX4_told_162 (by decide) ?_
        exact w_iret (post := fun r (u : (Nat → Int32) × (Nat → Nat → Int32)) => post r u.1 u.2) (wf := fun u : (Nat → Int32) × (Nat → Nat → Int32) => wd4 cI h ad u.1 u.2) (u := (Ic_3, Rc_3)) hx hb hr hK hP hD hS hq dX4_told_163 hlocks
      · have hq := hq.2 hc
        refine lv_aload_n hx hb dX4_told_150 rfl (lv_at hl 0 rfl) ?_
        refine va_get (D := (dC, dI)) (ci := 4) (v := .ref (ad 20)) (C := RX4) (T := TX4) (N := 27) hx hb hts nX4_told_X4 hown hK hP 0 rfl rfl 20 (by decide) (hts _ mX4_told_f53) (fun _ h9 => h9) rfl dX4_told_151 ?_
        refine lv_iload_n hx hb dX4_told_154 rfl (lv_at hl 2 rfl) ?_
        refine lv_bipush (v := (6 : Int32)) hx hb dX4_told_155 (by decide) ?_
        refine lv_isub hx hb dX4_told_157 ?_
        obtain ⟨hi_4, hq⟩ := hq
        refine va_iald (f := Rc_3 20) hx hb hK hP 12 0 rfl rfl hi_4 dX4_told_158 ?_
        refine lv_goto (tgt := 163) hx hb dX4_told_159 (by decide) ?_
        exact w_iret (post := fun r (u : (Nat → Int32) × (Nat → Nat → Int32)) => post r u.1 u.2) (wf := fun u : (Nat → Int32) × (Nat → Nat → Int32) => wd4 cI h ad u.1 u.2) (u := (Ic_3, Rc_3)) hx hb hr hK hP hD hS hq dX4_told_163 hlocks
    · have hq := hq.2 hc
      exact hq _ hZ _ _ ls hP hD hS (lv_sub hl [0] rfl)
