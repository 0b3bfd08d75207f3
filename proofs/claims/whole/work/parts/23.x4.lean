def qX4_wrong (post : Int32 → (Nat → Int32) → (Nat → Nat → Int32) → Prop) (I : Nat → Int32) (R : Nat → Nat → Int32) : Prop := ∃ Pc_1 : Int32 → (Nat → Int32) → (Nat → Nat → Int32) → Prop, qX4_good Pc_1  (va_up I 19 (0 : Int32)) R ∧ (∀ (rc_1 : Int32) (Ic_1 : Nat → Int32) (Rc_1 : Nat → Nat → Int32), Pc_1 rc_1 Ic_1 Rc_1 → (((((I 16) &&& (rc_1 ^^^ (-1 : Int32))) = 0) → (∃ Pc_2 : (Nat → Int32) → (Nat → Nat → Int32) → Prop, qX4_takeSeen Pc_2  Ic_1 Rc_1 ∧ (∀ (Ic_2 : Nat → Int32) (Rc_2 : Nat → Nat → Int32), Pc_2 Ic_2 Rc_2 → (∃ Pc_3 : Int32 → Prop, qX4_why Pc_3 (Ic_2 16) Ic_2 Rc_2 ∧ (∀ (rc_3 : Int32), Pc_3 rc_3 → (post rc_3 Ic_2 Rc_2)))))) ∧ ((¬ ((I 16) &&& (rc_1 ^^^ (-1 : Int32))) = 0) → (post (1 : Int32) Ic_1 Rc_1))))
theorem mX4_wrong_f71 : Cond.fieldLink RX4 71 "YearBookModel" "thrown" "I" ∈ wsX4_wrong := by decide +kernel
theorem nX4_wrong_X4 : ∀ w ∈ u_ws RX4 TX4 27, w ∈ wsX4_wrong := by decide +kernel
theorem mX4_wrong_f108 : Cond.fieldLink RX4 108 "YearBookModel" "choice" "I" ∈ wsX4_wrong := by decide +kernel
set_option maxHeartbeats 4000000 in
set_option maxRecDepth 100000 in
theorem tX4_wrong (l : Launch) (dC : Nat → ClassId) (dI : Nat → Nat → Nat) (cI : ClassId) (h : Nat) (ad : Nat → Nat)  (sz : Nat) (post : Int32 → (Nat → Int32) → (Nat → Nat → Int32) → Prop) (I : Nat → Int32) (R : Nat → Nat → Int32) (hq : qX4_wrong post I R) : Met l yX4_wrong wsX4_wrong ({ frames := 5, cells := 0, slots := 0, locals := 118 } : Room) (va_Pc [.ref h] (wPre (dC, dI) vwCl [(cI, .int)] (wd4 cI h ad I R) sz)) (va_Qi (fun r (u : (Nat → Int32) × (Nat → Nat → Int32)) => post r u.1 u.2) (wAt (dC, dI) vwCl [(cI, .int)] (va_A (wd4 cI h ad I R) sz) (fun u : (Nat → Int32) × (Nat → Nat → Int32) => wd4 cI h ad u.1 u.2)) (va_A (wd4 cI h ad I R) sz)) 0 0 (va_A (wd4 cI h ad I R) sz) := by
  unfold qX4_wrong at hq
  refine Met.ofW (cc := cX4_wrong) (maxL := 1) (ret := (some .int)) (by decide) rfl ?_
  intro p e s m args below meth c s₁ B hml hv
  obtain ⟨rfl, hsz, hP, hK, hD0⟩ := hv
  have hx := B.exec
  have hb := B.bytes
  have hr := B.returns
  have hts := atoms_spec (ws := wsX4_wrong) B.pre
  have hown : s.vm.findClass RX4 = some m.cls := findClass_of_methodNamed B.named
  have hlocks := B.notSynchronized
  subst hsz
  have hD := hD0.self (sz := s.heap.size)
  generalize hAe : va_A (wd4 cI h ad I R) s.heap.size = A at hD ⊢
  have hA : ∀ q : Nat, s.heap.size ≤ q → A q := fun q h => by rw [← hAe]; exact Or.inr h
  have hS : va_S A s.heap s.heap [] := va_S.rf
  have hl := lv_entry ([.ref h]) (n := 1) (Nat.le_of_ble_eq_true rfl)
  rw [lg_entry_eq]
  generalize (lg_sl ([.ref h]) ++ List.replicate (1 - (lg_sl ([.ref h])).length) Slot.unset).toArray = ls at hl ⊢
  have hl : lv_has ls 1 [(0, .ref h)] := hl
  refine lv_aload_n hx hb dX4_wrong_0 rfl (lv_at hl 0 rfl) ?_
  refine lv_iconst (v := (0 : Int32)) hx hb dX4_wrong_1 (by decide) ?_
  refine va_put (D := (dC, dI)) (ci := 4) (v := .int (0 : Int32)) (ty := .int) (C := RX4) (T := TX4) (N := 27) hx hb hts nX4_wrong_X4 tyX4 tyX4_ok nmX4 hown hK hP hD hS 0 rfl rfl 19 (by decide) (hts _ mX4_wrong_f71) (fun _ h9 => h9) rfl (by decide +kernel) rfl rfl (Nat.le_of_ble_eq_true rfl) dX4_wrong_2 (fun H locs hP hD hS => ?_)
  rw [wd4_I19] at hP hD
  refine lv_aload_n hx hb dX4_wrong_5 rfl (lv_at hl 0 rfl) ?_
  refine va_get (D := (dC, dI)) (ci := 4) (v := .int (I 16)) (C := RX4) (T := TX4) (N := 27) hx hb hts nX4_wrong_X4 hown hK hP 0 rfl rfl 16 (by decide) (hts _ mX4_wrong_f108) (fun _ h9 => h9) rfl dX4_wrong_6 ?_
  refine lv_aload_n hx hb dX4_wrong_9 rfl (lv_at hl 0 rfl) ?_
  obtain ⟨Pc_1, hc, hq⟩ := hq
  refine w_calli (wf := fun u : (Nat → Int32) × (Nat → Nat → Int32) => wd4 cI h ad u.1 u.2) (va_runV (As := []) (rest := [.int (I 16)]) ⟨hx, hb, hml, hown, hts⟩ (tX4_good l dC dI cI h ad _ Pc_1  (va_up I 19 (0 : Int32)) R hc) (cwV 0 hts gX4_wrong_X4_good rfl rfl rfl (by decide +kernel) ⟨Nat.le_of_ble_eq_true rfl, Nat.le_of_ble_eq_true rfl⟩) (wPreV hK hP hD (ci := 4) (q0 := 0) rfl rfl) rfl rfl hl.1 rfl (lv_room (Nat.le_of_ble_eq_true rfl)) dX4_wrong_10 ⟨Nat.le_of_ble_eq_true rfl, Nat.le_of_ble_eq_true rfl⟩) hD hS hA (fun rc_1 u H locs hp hP hD hS => ?_)
  obtain ⟨Ic_1, Rc_1⟩ := u
  have hq := hq rc_1 Ic_1 Rc_1 hp
  have hP : va_P (dC, dI) vwCl (wd4 cI h ad Ic_1 Rc_1) H := hP
  have hD : va_D A (wd4 cI h ad Ic_1 Rc_1) := hD
  refine lv_iconst (v := (-1 : Int32)) hx hb dX4_wrong_13 (by decide) ?_
  refine lv_ixor hx hb dX4_wrong_14 ?_
  refine lv_iand hx hb dX4_wrong_15 ?_
  refine lv_if_eq (tgt := 21) hx hb dX4_wrong_16 (by decide) (fun hc => ?_) (fun hc => ?_)
  · have hq := hq.1 hc
    refine lv_aload_n hx hb dX4_wrong_21 rfl (lv_at hl 0 rfl) ?_
    obtain ⟨Pc_2, hc, hq⟩ := hq
    refine w_callv (wf := fun u : (Nat → Int32) × (Nat → Nat → Int32) => wd4 cI h ad u.1 u.2) (va_runV (As := []) (rest := []) ⟨hx, hb, hml, hown, hts⟩ (tX4_takeSeen l dC dI cI h ad _ Pc_2  Ic_1 Rc_1 hc) (cwV 0 hts gX4_wrong_X4_takeSeen rfl rfl rfl (by decide +kernel) ⟨Nat.le_of_ble_eq_true rfl, Nat.le_of_ble_eq_true rfl⟩) (wPreV hK hP hD (ci := 4) (q0 := 0) rfl rfl) rfl rfl hl.1 rfl (lv_room (Nat.le_of_ble_eq_true rfl)) dX4_wrong_22 ⟨Nat.le_of_ble_eq_true rfl, Nat.le_of_ble_eq_true rfl⟩) hD hS hA (fun u H locs hp hP hD hS => ?_)
    obtain ⟨Ic_2, Rc_2⟩ := u
    have hq := hq Ic_2 Rc_2 hp
    have hP : va_P (dC, dI) vwCl (wd4 cI h ad Ic_2 Rc_2) H := hP
    have hD : va_D A (wd4 cI h ad Ic_2 Rc_2) := hD
    refine lv_aload_n hx hb dX4_wrong_25 rfl (lv_at hl 0 rfl) ?_
    refine lv_aload_n hx hb dX4_wrong_26 rfl (lv_at hl 0 rfl) ?_
    refine va_get (D := (dC, dI)) (ci := 4) (v := .int (Ic_2 16)) (C := RX4) (T := TX4) (N := 27) hx hb hts nX4_wrong_X4 hown hK hP 0 rfl rfl 16 (by decide) (hts _ mX4_wrong_f108) (fun _ h9 => h9) rfl dX4_wrong_27 ?_
    obtain ⟨Pc_3, hc, hq⟩ := hq
    refine w_calli (wf := fun _ : Unit => wd4 cI h ad Ic_2 Rc_2) (va_runV (As := [.int (Ic_2 16)]) (rest := []) ⟨hx, hb, hml, hown, hts⟩ (tX4_why l dC dI cI h ad _ Pc_3 (Ic_2 16) Ic_2 Rc_2 hc) (cwV 1 hts gX4_wrong_X4_why rfl rfl rfl (by decide +kernel) ⟨Nat.le_of_ble_eq_true rfl, Nat.le_of_ble_eq_true rfl⟩) (wPreV hK hP hD (ci := 4) (q0 := 0) rfl rfl) rfl rfl hl.1 rfl (lv_room (Nat.le_of_ble_eq_true rfl)) dX4_wrong_30 ⟨Nat.le_of_ble_eq_true rfl, Nat.le_of_ble_eq_true rfl⟩) hD hS hA (fun rc_3 u H locs hp hP hD hS => ?_)
    have hq := hq rc_3 hp
    have hP : va_P (dC, dI) vwCl (wd4 cI h ad Ic_2 Rc_2) H := hP
    have hD : va_D A (wd4 cI h ad Ic_2 Rc_2) := hD
    exact w_iret (post := fun r (u : (Nat → Int32) × (Nat → Nat → Int32)) => post r u.1 u.2) (wf := fun u : (Nat → Int32) × (Nat → Nat → Int32) => wd4 cI h ad u.1 u.2) (u := (Ic_2, Rc_2)) hx hb hr hK hP hD hS hq dX4_wrong_33 hlocks
  · have hq := hq.2 hc
    refine lv_iconst (v := (1 : Int32)) hx hb dX4_wrong_19 (by decide) ?_
    exact w_iret (post := fun r (u : (Nat → Int32) × (Nat → Nat → Int32)) => post r u.1 u.2) (wf := fun u : (Nat → Int32) × (Nat → Nat → Int32) => wd4 cI h ad u.1 u.2) (u := (Ic_1, Rc_1)) hx hb hr hK hP hD hS hq dX4_wrong_20 hlocks
