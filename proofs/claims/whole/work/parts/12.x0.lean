def qX0_offer (post : (Nat → Int32) → (Nat → Int64) → (Nat → Nat → Int32) → (Nat → Nat → Int64) → Prop) (p1 : Int32) (p2 : Int32) (p3 : Int64) (I : Nat → Int32) (J : Nat → Int64) (R : Nat → Nat → Int32) (G : Nat → Nat → Int64) : Prop := (((14 : Int32) ≤ (I 2)) → (post I J R G)) ∧ ((¬ (14 : Int32) ≤ (I 2)) → (vp_in (I 2) 14 ∧ (∃ Pc_2 : Int64 → Prop, qX0_inFours Pc_2 p2 ∧ (∀ (rc_2 : Int64), Pc_2 rc_2 → (∀ v_3 : Int64, v_3 = (vp_updL (G 4) (I 2).toNatClampNeg rc_2) (I 2).toNatClampNeg → (post (va_up I 2 ((I 2) + (1 : Int32))) (va_up J 10 ((J 10) &&& ((v_3 * (15 : Int64)) ^^^ (-1 : Int64)))) (va_up R 3 (upd (R 3) (I 2).toNatClampNeg p1)) (va_up (va_up G 4 (vp_updL (G 4) (I 2).toNatClampNeg rc_2)) 5 (vp_updL (G 5) (I 2).toNatClampNeg p3))))))))
theorem mX0_offer_f41 : Cond.fieldLink RX0 41 "YearBook$Chooser" "size" "I" ∈ wsX0_offer := by decide +kernel
theorem nX0_offer_X0 : ∀ w ∈ u_ws RX0 TX0 14, w ∈ wsX0_offer := by decide +kernel
theorem mX0_offer_f9 : Cond.fieldLink RX0 9 "YearBook$Chooser" "bits" "[I" ∈ wsX0_offer := by decide +kernel
theorem mX0_offer_f15 : Cond.fieldLink RX0 15 "YearBook$Chooser" "shown" "[J" ∈ wsX0_offer := by decide +kernel
theorem mX0_offer_f19 : Cond.fieldLink RX0 19 "YearBook$Chooser" "marks" "[J" ∈ wsX0_offer := by decide +kernel
theorem mX0_offer_f46 : Cond.fieldLink RX0 46 "YearBook$Chooser" "notCounted" "J" ∈ wsX0_offer := by decide +kernel
theorem mX0_offer_c54 : Cond.constantLong RX0 54 (15) ∈ wsX0_offer := by decide +kernel
theorem mX0_offer_c44 : Cond.constantLong RX0 44 (-1) ∈ wsX0_offer := by decide +kernel
set_option maxHeartbeats 4000000 in
set_option maxRecDepth 100000 in
theorem tX0_offer (l : Launch) (dC : Nat → ClassId) (dI : Nat → Nat → Nat) (cI : ClassId) (cJ : ClassId) (h : Nat) (ad : Nat → Nat)  (sz : Nat) (post : (Nat → Int32) → (Nat → Int64) → (Nat → Nat → Int32) → (Nat → Nat → Int64) → Prop) (p1 : Int32) (p2 : Int32) (p3 : Int64) (I : Nat → Int32) (J : Nat → Int64) (R : Nat → Nat → Int32) (G : Nat → Nat → Int64) (hq : qX0_offer post p1 p2 p3 I J R G) : Met l yX0_offer wsX0_offer ({ frames := 1, cells := 0, slots := 0, locals := 23 } : Room) (va_Pc [.ref h, .int p1, .int p2, .long p3] (wPre (dC, dI) vwCl [(cI, .int), (cJ, .long)] (wd0 cI cJ h ad I J R G) sz)) (va_Qv (fun (u : (Nat → Int32) × (Nat → Int64) × (Nat → Nat → Int32) × (Nat → Nat → Int64)) => post u.1 u.2.1 u.2.2.1 u.2.2.2) (wAt (dC, dI) vwCl [(cI, .int), (cJ, .long)] (va_A (wd0 cI cJ h ad I J R G) sz) (fun u : (Nat → Int32) × (Nat → Int64) × (Nat → Nat → Int32) × (Nat → Nat → Int64) => wd0 cI cJ h ad u.1 u.2.1 u.2.2.1 u.2.2.2)) (va_A (wd0 cI cJ h ad I J R G) sz)) 0 0 (va_A (wd0 cI cJ h ad I J R G) sz) := by
  unfold qX0_offer at hq
  refine Met.ofW (cc := cX0_offer) (maxL := 5) (ret := none) (by decide) rfl ?_
  intro p e s m args below meth c s₁ B hml hv
  obtain ⟨rfl, hsz, hP, hK, hD0⟩ := hv
  have hx := B.exec
  have hb := B.bytes
  have hr := B.returns
  have hts := atoms_spec (ws := wsX0_offer) B.pre
  have hown : s.vm.findClass RX0 = some m.cls := findClass_of_methodNamed B.named
  have hlocks := B.notSynchronized
  subst hsz
  have hD := hD0.self (sz := s.heap.size)
  generalize hAe : va_A (wd0 cI cJ h ad I J R G) s.heap.size = A at hD ⊢
  have hA : ∀ q : Nat, s.heap.size ≤ q → A q := fun q h => by rw [← hAe]; exact Or.inr h
  have hS : va_S A s.heap s.heap [] := va_S.rf
  have hl := lv_entry ([.ref h, .int p1, .int p2, .long p3]) (n := 5) (Nat.le_of_ble_eq_true rfl)
  rw [lg_entry_eq]
  generalize (lg_sl ([.ref h, .int p1, .int p2, .long p3]) ++ List.replicate (5 - (lg_sl ([.ref h, .int p1, .int p2, .long p3])).length) Slot.unset).toArray = ls at hl ⊢
  have hl : lv_has ls 5 [(0, .ref h), (1, .int p1), (2, .int p2), (3, .long p3)] := hl
  refine lv_aload_n hx hb dX0_offer_0 rfl (lv_at hl 0 rfl) ?_
  refine va_get (D := (dC, dI)) (ci := 0) (v := .int (I 2)) (C := RX0) (T := TX0) (N := 14) hx hb hts nX0_offer_X0 hown hK hP 0 rfl rfl 2 (by decide) (hts _ mX0_offer_f41) (fun _ h9 => h9) rfl dX0_offer_1 ?_
  refine lv_bipush (v := (14 : Int32)) hx hb dX0_offer_4 (by decide) ?_
  refine lv_icmp_ge (tgt := 78) hx hb dX0_offer_6 (by decide) (fun hc => ?_) (fun hc => ?_)
  · have hq := hq.1 hc
    exact w_vret (post := fun (u : (Nat → Int32) × (Nat → Int64) × (Nat → Nat → Int32) × (Nat → Nat → Int64)) => post u.1 u.2.1 u.2.2.1 u.2.2.2) (wf := fun u : (Nat → Int32) × (Nat → Int64) × (Nat → Nat → Int32) × (Nat → Nat → Int64) => wd0 cI cJ h ad u.1 u.2.1 u.2.2.1 u.2.2.2) (u := (I, J, R, G)) hx hb hr hK hP hD hS hq dX0_offer_78 hlocks
  · have hq := hq.2 hc
    refine lv_aload_n hx hb dX0_offer_9 rfl (lv_at hl 0 rfl) ?_
    refine va_get (D := (dC, dI)) (ci := 0) (v := .ref (ad 3)) (C := RX0) (T := TX0) (N := 14) hx hb hts nX0_offer_X0 hown hK hP 0 rfl rfl 3 (by decide) (hts _ mX0_offer_f9) (fun _ h9 => h9) rfl dX0_offer_10 ?_
    refine lv_aload_n hx hb dX0_offer_13 rfl (lv_at hl 0 rfl) ?_
    refine va_get (D := (dC, dI)) (ci := 0) (v := .int (I 2)) (C := RX0) (T := TX0) (N := 14) hx hb hts nX0_offer_X0 hown hK hP 0 rfl rfl 2 (by decide) (hts _ mX0_offer_f41) (fun _ h9 => h9) rfl dX0_offer_14 ?_
    refine lv_iload_n hx hb dX0_offer_17 rfl (lv_at hl 1 rfl) ?_
    obtain ⟨hi_1, hq⟩ := hq
    refine va_iast (f := R 3) hx hb hK hP hD hS 1 0 rfl rfl hi_1 dX0_offer_18 (fun H locs hP hD hS => ?_)
    rw [wd0_R3] at hP hD
    refine lv_aload_n hx hb dX0_offer_19 rfl (lv_at hl 0 rfl) ?_
    refine va_get (D := (dC, dI)) (ci := 0) (v := .ref (ad 4)) (C := RX0) (T := TX0) (N := 14) hx hb hts nX0_offer_X0 hown hK hP 0 rfl rfl 4 (by decide) (hts _ mX0_offer_f15) (fun _ h9 => h9) rfl dX0_offer_20 ?_
    refine lv_aload_n hx hb dX0_offer_23 rfl (lv_at hl 0 rfl) ?_
    refine va_get (D := (dC, dI)) (ci := 0) (v := .int (I 2)) (C := RX0) (T := TX0) (N := 14) hx hb hts nX0_offer_X0 hown hK hP 0 rfl rfl 2 (by decide) (hts _ mX0_offer_f41) (fun _ h9 => h9) rfl dX0_offer_24 ?_
    refine lv_iload_n hx hb dX0_offer_27 rfl (lv_at hl 2 rfl) ?_
    obtain ⟨Pc_2, hc, hq⟩ := hq
    refine vp_callSl (W.runS (As := [.int p2]) (rest := [.int (I 2), .ref (ad 4)]) ⟨hx, hb, hml, hown, hts⟩ (tX0_inFours l Pc_2 p2 hc) (va_cwS 1 hts gX0_offer_X0_inFours rfl rfl rfl (by decide +kernel) ⟨Nat.le_of_ble_eq_true rfl, Nat.le_of_ble_eq_true rfl⟩) preEq rfl rfl hl.1 rfl (lv_room (Nat.le_of_ble_eq_true rfl)) dX0_offer_28 ⟨Nat.le_of_ble_eq_true rfl, Nat.le_of_ble_eq_true rfl⟩) (fun rc_2 hp => ?_)
    have hq := hq rc_2 hp
    refine va_last (f := G 4) hx hb hK hP hD hS 2 1 rfl rfl hi_1 dX0_offer_31 (fun H locs hP hD hS => ?_)
    rw [wd0_G4] at hP hD
    refine lv_aload_n hx hb dX0_offer_32 rfl (lv_at hl 0 rfl) ?_
    refine va_get (D := (dC, dI)) (ci := 0) (v := .ref (ad 5)) (C := RX0) (T := TX0) (N := 14) hx hb hts nX0_offer_X0 hown hK hP 0 rfl rfl 5 (by decide) (hts _ mX0_offer_f19) (fun _ h9 => h9) rfl dX0_offer_33 ?_
    refine lv_aload_n hx hb dX0_offer_36 rfl (lv_at hl 0 rfl) ?_
    refine va_get (D := (dC, dI)) (ci := 0) (v := .int (I 2)) (C := RX0) (T := TX0) (N := 14) hx hb hts nX0_offer_X0 hown hK hP 0 rfl rfl 2 (by decide) (hts _ mX0_offer_f41) (fun _ h9 => h9) rfl dX0_offer_37 ?_
    refine lv_lload_n hx hb dX0_offer_40 rfl (lv_at hl 3 rfl) ?_
    refine va_last (f := G 5) hx hb hK hP hD hS 3 1 rfl rfl hi_1 dX0_offer_41 (fun H locs hP hD hS => ?_)
    rw [wd0_G5] at hP hD
    refine lv_aload_n hx hb dX0_offer_42 rfl (lv_at hl 0 rfl) ?_
    refine lv_dup hx hb dX0_offer_43 rfl ?_
    refine va_get (D := (dC, dI)) (ci := 0) (v := .long (J 10)) (C := RX0) (T := TX0) (N := 14) hx hb hts nX0_offer_X0 hown hK hP 0 rfl rfl 10 (by decide) (hts _ mX0_offer_f46) (fun _ h9 => h9) rfl dX0_offer_44 ?_
    refine lv_aload_n hx hb dX0_offer_47 rfl (lv_at hl 0 rfl) ?_
    refine va_get (D := (dC, dI)) (ci := 0) (v := .ref (ad 4)) (C := RX0) (T := TX0) (N := 14) hx hb hts nX0_offer_X0 hown hK hP 0 rfl rfl 4 (by decide) (hts _ mX0_offer_f15) (fun _ h9 => h9) rfl dX0_offer_48 ?_
    refine lv_aload_n hx hb dX0_offer_51 rfl (lv_at hl 0 rfl) ?_
    refine va_get (D := (dC, dI)) (ci := 0) (v := .int (I 2)) (C := RX0) (T := TX0) (N := 14) hx hb hts nX0_offer_X0 hown hK hP 0 rfl rfl 2 (by decide) (hts _ mX0_offer_f41) (fun _ h9 => h9) rfl dX0_offer_52 ?_
    refine va_lald (f := vp_updL (G 4) (I 2).toNatClampNeg rc_2) hx hb hK hP 2 1 rfl rfl hi_1 dX0_offer_55 ?_
    refine lv_topl (fun v_3 ev_3 => ?_)
    have hq := hq v_3 ev_3
    refine lv_ldc2 (v := (15 : Int64)) hx hb hown (hts _ mX0_offer_c54) dX0_offer_56 ?_
    refine lv_lmul hx hb dX0_offer_59 ?_
    refine lv_ldc2 (v := (-1 : Int64)) hx hb hown (hts _ mX0_offer_c44) dX0_offer_60 ?_
    refine lv_lxor hx hb dX0_offer_63 ?_
    refine lv_land hx hb dX0_offer_64 ?_
    refine va_put (D := (dC, dI)) (ci := 0) (v := .long ((J 10) &&& ((v_3 * (15 : Int64)) ^^^ (-1 : Int64)))) (ty := .long) (C := RX0) (T := TX0) (N := 14) hx hb hts nX0_offer_X0 tyX0 tyX0_ok nmX0 hown hK hP hD hS 0 rfl rfl 10 (by decide) (hts _ mX0_offer_f46) (fun _ h9 => h9) rfl (by decide +kernel) rfl rfl (Nat.le_of_ble_eq_true rfl) dX0_offer_65 (fun H locs hP hD hS => ?_)
    rw [wd0_J10] at hP hD
    refine lv_aload_n hx hb dX0_offer_68 rfl (lv_at hl 0 rfl) ?_
    refine lv_dup hx hb dX0_offer_69 rfl ?_
    refine va_get (D := (dC, dI)) (ci := 0) (v := .int (I 2)) (C := RX0) (T := TX0) (N := 14) hx hb hts nX0_offer_X0 hown hK hP 0 rfl rfl 2 (by decide) (hts _ mX0_offer_f41) (fun _ h9 => h9) rfl dX0_offer_70 ?_
    refine lv_iconst (v := (1 : Int32)) hx hb dX0_offer_73 (by decide) ?_
    refine lv_iadd hx hb dX0_offer_74 ?_
    refine va_put (D := (dC, dI)) (ci := 0) (v := .int ((I 2) + (1 : Int32))) (ty := .int) (C := RX0) (T := TX0) (N := 14) hx hb hts nX0_offer_X0 tyX0 tyX0_ok nmX0 hown hK hP hD hS 0 rfl rfl 2 (by decide) (hts _ mX0_offer_f41) (fun _ h9 => h9) rfl (by decide +kernel) rfl rfl (Nat.le_of_ble_eq_true rfl) dX0_offer_75 (fun H locs hP hD hS => ?_)
    rw [wd0_I2] at hP hD
    exact w_vret (post := fun (u : (Nat → Int32) × (Nat → Int64) × (Nat → Nat → Int32) × (Nat → Nat → Int64)) => post u.1 u.2.1 u.2.2.1 u.2.2.2) (wf := fun u : (Nat → Int32) × (Nat → Int64) × (Nat → Nat → Int32) × (Nat → Nat → Int64) => wd0 cI cJ h ad u.1 u.2.1 u.2.2.1 u.2.2.2) (u := (va_up I 2 ((I 2) + (1 : Int32)), va_up J 10 ((J 10) &&& ((v_3 * (15 : Int64)) ^^^ (-1 : Int64))), va_up R 3 (upd (R 3) (I 2).toNatClampNeg p1), va_up (va_up G 4 (vp_updL (G 4) (I 2).toNatClampNeg rc_2)) 5 (vp_updL (G 5) (I 2).toNatClampNeg p3))) hx hb hr hK hP hD hS hq dX0_offer_78 hlocks
def zX0_sumUp (post : (Nat → Int32) → (Nat → Int64) → (Nat → Nat → Int32) → (Nat → Nat → Int64) → Prop) (X47 : Int32 → (Nat → Int32) → (Nat → Int64) → (Nat → Nat → Int32) → (Nat → Nat → Int64) → Prop) (X67 : Int32 → Int32 → (Nat → Int32) → (Nat → Int64) → (Nat → Nat → Int32) → (Nat → Nat → Int64) → Prop) (X116 : Int32 → Int32 → Int64 → Int64 → Int32 → (Nat → Int32) → (Nat → Int64) → (Nat → Nat → Int32) → (Nat → Nat → Int64) → Prop) (X145 : Int32 → Int32 → Int32 → Int32 → Int32 → (Nat → Int32) → (Nat → Int64) → (Nat → Nat → Int32) → (Nat → Nat → Int64) → Prop) (X174 : Int32 → Int64 → Int64 → Int32 → (Nat → Int32) → (Nat → Int64) → (Nat → Nat → Int32) → (Nat → Nat → Int64) → Prop) : Prop :=
  (∀ (x1 : Int32) (I : Nat → Int32) (J : Nat → Int64) (R : Nat → Nat → Int32) (G : Nat → Nat → Int64), (((x1 < 0) → (post I J R G)) ∧ ((¬ x1 < 0) → (vp_in x1 14 ∧ ((((lg_cmp (G 5 x1.toNatClampNeg) (0 : Int64)) ≤ 0) → (X67 x1 (0 : Int32) I J R G)) ∧ ((¬ (lg_cmp (G 5 x1.toNatClampNeg) (0 : Int64)) ≤ 0) → (X67 x1 (1 : Int32) I J R G)))))) → X47 x1 I J R G) ∧
  (∀ (x1 : Int32) (k0 : Int32) (I : Nat → Int32) (J : Nat → Int64) (R : Nat → Nat → Int32) (G : Nat → Nat → Int64), (vp_in (x1 + (1 : Int32)) 15 ∧ (vp_in x1 14 ∧ (vp_in x1 15 ∧ (((k0 = 0) → (X116 x1 k0 (0 : Int64) (G 7 (x1 + (1 : Int32)).toNatClampNeg) x1 I J R (va_up G 6 (vp_updL (G 6) x1.toNatClampNeg ((G 6 (x1 + (1 : Int32)).toNatClampNeg) + (G 4 x1.toNatClampNeg)))))) ∧ ((¬ k0 = 0) → (X116 x1 k0 (G 4 x1.toNatClampNeg) (G 7 (x1 + (1 : Int32)).toNatClampNeg) x1 I J R (va_up G 6 (vp_updL (G 6) x1.toNatClampNeg ((G 6 (x1 + (1 : Int32)).toNatClampNeg) + (G 4 x1.toNatClampNeg)))))))))) → X67 x1 k0 I J R G) ∧
  (∀ (x1 : Int32) (x2 : Int32) (k0 : Int64) (k1 : Int64) (k2 : Int32) (I : Nat → Int32) (J : Nat → Int64) (R : Nat → Nat → Int32) (G : Nat → Nat → Int64), (vp_in k2 15 ∧ (vp_in (x1 + (1 : Int32)) 15 ∧ (((x2 = 0) → (X145 x1 x2 (0 : Int32) (R 8 (x1 + (1 : Int32)).toNatClampNeg) x1 I J R (va_up G 7 (vp_updL (G 7) k2.toNatClampNeg (k1 + k0))))) ∧ ((¬ x2 = 0) → (vp_in x1 14 ∧ (X145 x1 x2 (R 3 x1.toNatClampNeg) (R 8 (x1 + (1 : Int32)).toNatClampNeg) x1 I J R (va_up G 7 (vp_updL (G 7) k2.toNatClampNeg (k1 + k0))))))))) → X116 x1 x2 k0 k1 k2 I J R G) ∧
  (∀ (x1 : Int32) (x2 : Int32) (k0 : Int32) (k1 : Int32) (k2 : Int32) (I : Nat → Int32) (J : Nat → Int64) (R : Nat → Nat → Int32) (G : Nat → Nat → Int64), (vp_in k2 15 ∧ (vp_in (x1 + (1 : Int32)) 15 ∧ (((x2 = 0) → (X174 x1 (0 : Int64) (G 9 (x1 + (1 : Int32)).toNatClampNeg) x1 I J (va_up R 8 (upd (R 8) k2.toNatClampNeg (k1 ||| k0))) G)) ∧ ((¬ x2 = 0) → (vp_in x1 14 ∧ (X174 x1 (G 5 x1.toNatClampNeg) (G 9 (x1 + (1 : Int32)).toNatClampNeg) x1 I J (va_up R 8 (upd (R 8) k2.toNatClampNeg (k1 ||| k0))) G)))))) → X145 x1 x2 k0 k1 k2 I J R G) ∧
  (∀ (x1 : Int32) (k0 : Int64) (k1 : Int64) (k2 : Int32) (I : Nat → Int32) (J : Nat → Int64) (R : Nat → Nat → Int32) (G : Nat → Nat → Int64), (vp_in k2 15 ∧ (X47 (x1 + (-1 : Int32)) I J R (va_up G 9 (vp_updL (G 9) k2.toNatClampNeg (k1 + k0))))) → X174 x1 k0 k1 k2 I J R G)
def qX0_sumUp_47 (post : (Nat → Int32) → (Nat → Int64) → (Nat → Nat → Int32) → (Nat → Nat → Int64) → Prop) (x1 : Int32) (I : Nat → Int32) (J : Nat → Int64) (R : Nat → Nat → Int32) (G : Nat → Nat → Int64) : Prop := ∀ (X47 : Int32 → (Nat → Int32) → (Nat → Int64) → (Nat → Nat → Int32) → (Nat → Nat → Int64) → Prop) (X67 : Int32 → Int32 → (Nat → Int32) → (Nat → Int64) → (Nat → Nat → Int32) → (Nat → Nat → Int64) → Prop) (X116 : Int32 → Int32 → Int64 → Int64 → Int32 → (Nat → Int32) → (Nat → Int64) → (Nat → Nat → Int32) → (Nat → Nat → Int64) → Prop) (X145 : Int32 → Int32 → Int32 → Int32 → Int32 → (Nat → Int32) → (Nat → Int64) → (Nat → Nat → Int32) → (Nat → Nat → Int64) → Prop) (X174 : Int32 → Int64 → Int64 → Int32 → (Nat → Int32) → (Nat → Int64) → (Nat → Nat → Int32) → (Nat → Nat → Int64) → Prop), zX0_sumUp post X47 X67 X116 X145 X174 → X47 x1 I J R G
def qX0_sumUp_67 (post : (Nat → Int32) → (Nat → Int64) → (Nat → Nat → Int32) → (Nat → Nat → Int64) → Prop) (x1 : Int32) (k0 : Int32) (I : Nat → Int32) (J : Nat → Int64) (R : Nat → Nat → Int32) (G : Nat → Nat → Int64) : Prop := ∀ (X47 : Int32 → (Nat → Int32) → (Nat → Int64) → (Nat → Nat → Int32) → (Nat → Nat → Int64) → Prop) (X67 : Int32 → Int32 → (Nat → Int32) → (Nat → Int64) → (Nat → Nat → Int32) → (Nat → Nat → Int64) → Prop) (X116 : Int32 → Int32 → Int64 → Int64 → Int32 → (Nat → Int32) → (Nat → Int64) → (Nat → Nat → Int32) → (Nat → Nat → Int64) → Prop) (X145 : Int32 → Int32 → Int32 → Int32 → Int32 → (Nat → Int32) → (Nat → Int64) → (Nat → Nat → Int32) → (Nat → Nat → Int64) → Prop) (X174 : Int32 → Int64 → Int64 → Int32 → (Nat → Int32) → (Nat → Int64) → (Nat → Nat → Int32) → (Nat → Nat → Int64) → Prop), zX0_sumUp post X47 X67 X116 X145 X174 → X67 x1 k0 I J R G
def qX0_sumUp_116 (post : (Nat → Int32) → (Nat → Int64) → (Nat → Nat → Int32) → (Nat → Nat → Int64) → Prop) (x1 : Int32) (x2 : Int32) (k0 : Int64) (k1 : Int64) (k2 : Int32) (I : Nat → Int32) (J : Nat → Int64) (R : Nat → Nat → Int32) (G : Nat → Nat → Int64) : Prop := ∀ (X47 : Int32 → (Nat → Int32) → (Nat → Int64) → (Nat → Nat → Int32) → (Nat → Nat → Int64) → Prop) (X67 : Int32 → Int32 → (Nat → Int32) → (Nat → Int64) → (Nat → Nat → Int32) → (Nat → Nat → Int64) → Prop) (X116 : Int32 → Int32 → Int64 → Int64 → Int32 → (Nat → Int32) → (Nat → Int64) → (Nat → Nat → Int32) → (Nat → Nat → Int64) → Prop) (X145 : Int32 → Int32 → Int32 → Int32 → Int32 → (Nat → Int32) → (Nat → Int64) → (Nat → Nat → Int32) → (Nat → Nat → Int64) → Prop) (X174 : Int32 → Int64 → Int64 → Int32 → (Nat → Int32) → (Nat → Int64) → (Nat → Nat → Int32) → (Nat → Nat → Int64) → Prop), zX0_sumUp post X47 X67 X116 X145 X174 → X116 x1 x2 k0 k1 k2 I J R G
def qX0_sumUp_145 (post : (Nat → Int32) → (Nat → Int64) → (Nat → Nat → Int32) → (Nat → Nat → Int64) → Prop) (x1 : Int32) (x2 : Int32) (k0 : Int32) (k1 : Int32) (k2 : Int32) (I : Nat → Int32) (J : Nat → Int64) (R : Nat → Nat → Int32) (G : Nat → Nat → Int64) : Prop := ∀ (X47 : Int32 → (Nat → Int32) → (Nat → Int64) → (Nat → Nat → Int32) → (Nat → Nat → Int64) → Prop) (X67 : Int32 → Int32 → (Nat → Int32) → (Nat → Int64) → (Nat → Nat → Int32) → (Nat → Nat → Int64) → Prop) (X116 : Int32 → Int32 → Int64 → Int64 → Int32 → (Nat → Int32) → (Nat → Int64) → (Nat → Nat → Int32) → (Nat → Nat → Int64) → Prop) (X145 : Int32 → Int32 → Int32 → Int32 → Int32 → (Nat → Int32) → (Nat → Int64) → (Nat → Nat → Int32) → (Nat → Nat → Int64) → Prop) (X174 : Int32 → Int64 → Int64 → Int32 → (Nat → Int32) → (Nat → Int64) → (Nat → Nat → Int32) → (Nat → Nat → Int64) → Prop), zX0_sumUp post X47 X67 X116 X145 X174 → X145 x1 x2 k0 k1 k2 I J R G
def qX0_sumUp_174 (post : (Nat → Int32) → (Nat → Int64) → (Nat → Nat → Int32) → (Nat → Nat → Int64) → Prop) (x1 : Int32) (k0 : Int64) (k1 : Int64) (k2 : Int32) (I : Nat → Int32) (J : Nat → Int64) (R : Nat → Nat → Int32) (G : Nat → Nat → Int64) : Prop := ∀ (X47 : Int32 → (Nat → Int32) → (Nat → Int64) → (Nat → Nat → Int32) → (Nat → Nat → Int64) → Prop) (X67 : Int32 → Int32 → (Nat → Int32) → (Nat → Int64) → (Nat → Nat → Int32) → (Nat → Nat → Int64) → Prop) (X116 : Int32 → Int32 → Int64 → Int64 → Int32 → (Nat → Int32) → (Nat → Int64) → (Nat → Nat → Int32) → (Nat → Nat → Int64) → Prop) (X145 : Int32 → Int32 → Int32 → Int32 → Int32 → (Nat → Int32) → (Nat → Int64) → (Nat → Nat → Int32) → (Nat → Nat → Int64) → Prop) (X174 : Int32 → Int64 → Int64 → Int32 → (Nat → Int32) → (Nat → Int64) → (Nat → Nat → Int32) → (Nat → Nat → Int64) → Prop), zX0_sumUp post X47 X67 X116 X145 X174 → X174 x1 k0 k1 k2 I J R G
theorem kX0_sumUp_47 {post : (Nat → Int32) → (Nat → Int64) → (Nat → Nat → Int32) → (Nat → Nat → Int64) → Prop} {x1 : Int32} {I : Nat → Int32} {J : Nat → Int64} {R : Nat → Nat → Int32} {G : Nat → Nat → Int64} (h : ((x1 < 0) → (post I J R G)) ∧ ((¬ x1 < 0) → (vp_in x1 14 ∧ ((((lg_cmp (G 5 x1.toNatClampNeg) (0 : Int64)) ≤ 0) → (qX0_sumUp_67 post x1 (0 : Int32) I J R G)) ∧ ((¬ (lg_cmp (G 5 x1.toNatClampNeg) (0 : Int64)) ≤ 0) → (qX0_sumUp_67 post x1 (1 : Int32) I J R G)))))) : qX0_sumUp_47 post x1 I J R G := by
  intro Z47 Z67 Z116 Z145 Z174 hcl
  refine hcl.1 x1 I J R G ?_
  refine ⟨fun c => ?_, fun c => ?_⟩
  · have h := h.1 c
    exact h
  · have h := h.2 c
    refine ⟨h.1, ?_⟩
    have h := h.2
    refine ⟨fun c => ?_, fun c => ?_⟩
    · have h := h.1 c
      exact h _ _ _ _ _ hcl
    · have h := h.2 c
      exact h _ _ _ _ _ hcl
theorem kX0_sumUp_67 {post : (Nat → Int32) → (Nat → Int64) → (Nat → Nat → Int32) → (Nat → Nat → Int64) → Prop} {x1 : Int32} {k0 : Int32} {I : Nat → Int32} {J : Nat → Int64} {R : Nat → Nat → Int32} {G : Nat → Nat → Int64} (h : vp_in (x1 + (1 : Int32)) 15 ∧ (vp_in x1 14 ∧ (vp_in x1 15 ∧ (((k0 = 0) → (qX0_sumUp_116 post x1 k0 (0 : Int64) (G 7 (x1 + (1 : Int32)).toNatClampNeg) x1 I J R (va_up G 6 (vp_updL (G 6) x1.toNatClampNeg ((G 6 (x1 + (1 : Int32)).toNatClampNeg) + (G 4 x1.toNatClampNeg)))))) ∧ ((¬ k0 = 0) → (qX0_sumUp_116 post x1 k0 (G 4 x1.toNatClampNeg) (G 7 (x1 + (1 : Int32)).toNatClampNeg) x1 I J R (va_up G 6 (vp_updL (G 6) x1.toNatClampNeg ((G 6 (x1 + (1 : Int32)).toNatClampNeg) + (G 4 x1.toNatClampNeg)))))))))) : qX0_sumUp_67 post x1 k0 I J R G := by
  intro Z47 Z67 Z116 Z145 Z174 hcl
  refine hcl.2.1 x1 k0 I J R G ?_
  refine ⟨h.1, ?_⟩
  have h := h.2
  refine ⟨h.1, ?_⟩
  have h := h.2
  refine ⟨h.1, ?_⟩
  have h := h.2
  refine ⟨fun c => ?_, fun c => ?_⟩
  · have h := h.1 c
    exact h _ _ _ _ _ hcl
  · have h := h.2 c
    exact h _ _ _ _ _ hcl
theorem kX0_sumUp_116 {post : (Nat → Int32) → (Nat → Int64) → (Nat → Nat → Int32) → (Nat → Nat → Int64) → Prop} {x1 : Int32} {x2 : Int32} {k0 : Int64} {k1 : Int64} {k2 : Int32} {I : Nat → Int32} {J : Nat → Int64} {R : Nat → Nat → Int32} {G : Nat → Nat → Int64} (h : vp_in k2 15 ∧ (vp_in (x1 + (1 : Int32)) 15 ∧ (((x2 = 0) → (qX0_sumUp_145 post x1 x2 (0 : Int32) (R 8 (x1 + (1 : Int32)).toNatClampNeg) x1 I J R (va_up G 7 (vp_updL (G 7) k2.toNatClampNeg (k1 + k0))))) ∧ ((¬ x2 = 0) → (vp_in x1 14 ∧ (qX0_sumUp_145 post x1 x2 (R 3 x1.toNatClampNeg) (R 8 (x1 + (1 : Int32)).toNatClampNeg) x1 I J R (va_up G 7 (vp_updL (G 7) k2.toNatClampNeg (k1 + k0))))))))) : qX0_sumUp_116 post x1 x2 k0 k1 k2 I J R G := by
  intro Z47 Z67 Z116 Z145 Z174 hcl
  refine hcl.2.2.1 x1 x2 k0 k1 k2 I J R G ?_
  refine ⟨h.1, ?_⟩
  have h := h.2
  refine ⟨h.1, ?_⟩
  have h := h.2
  refine ⟨fun c => ?_, fun c => ?_⟩
  · have h := h.1 c
    exact h _ _ _ _ _ hcl
  · have h := h.2 c
    refine ⟨h.1, ?_⟩
    have h := h.2
    exact h _ _ _ _ _ hcl
theorem kX0_sumUp_145 {post : (Nat → Int32) → (Nat → Int64) → (Nat → Nat → Int32) → (Nat → Nat → Int64) → Prop} {x1 : Int32} {x2 : Int32} {k0 : Int32} {k1 : Int32} {k2 : Int32} {I : Nat → Int32} {J : Nat → Int64} {R : Nat → Nat → Int32} {G : Nat → Nat → Int64} (h : vp_in k2 15 ∧ (vp_in (x1 + (1 : Int32)) 15 ∧ (((x2 = 0) → (qX0_sumUp_174 post x1 (0 : Int64) (G 9 (x1 + (1 : Int32)).toNatClampNeg) x1 I J (va_up R 8 (upd (R 8) k2.toNatClampNeg (k1 ||| k0))) G)) ∧ ((¬ x2 = 0) → (vp_in x1 14 ∧ (qX0_sumUp_174 post x1 (G 5 x1.toNatClampNeg) (G 9 (x1 + (1 : Int32)).toNatClampNeg) x1 I J (va_up R 8 (upd (R 8) k2.toNatClampNeg (k1 ||| k0))) G)))))) : qX0_sumUp_145 post x1 x2 k0 k1 k2 I J R G := by
  intro Z47 Z67 Z116 Z145 Z174 hcl
  refine hcl.2.2.2.1 x1 x2 k0 k1 k2 I J R G ?_
  refine ⟨h.1, ?_⟩
  have h := h.2
  refine ⟨h.1, ?_⟩
  have h := h.2
  refine ⟨fun c => ?_, fun c => ?_⟩
  · have h := h.1 c
    exact h _ _ _ _ _ hcl
  · have h := h.2 c
    refine ⟨h.1, ?_⟩
    have h := h.2
    exact h _ _ _ _ _ hcl
theorem kX0_sumUp_174 {post : (Nat → Int32) → (Nat → Int64) → (Nat → Nat → Int32) → (Nat → Nat → Int64) → Prop} {x1 : Int32} {k0 : Int64} {k1 : Int64} {k2 : Int32} {I : Nat → Int32} {J : Nat → Int64} {R : Nat → Nat → Int32} {G : Nat → Nat → Int64} (h : vp_in k2 15 ∧ (qX0_sumUp_47 post (x1 + (-1 : Int32)) I J R (va_up G 9 (vp_updL (G 9) k2.toNatClampNeg (k1 + k0))))) : qX0_sumUp_174 post x1 k0 k1 k2 I J R G := by
  intro Z47 Z67 Z116 Z145 Z174 hcl
  refine hcl.2.2.2.2 x1 k0 k1 k2 I J R G ?_
  refine ⟨h.1, ?_⟩
  have h := h.2
  exact h _ _ _ _ _ hcl
def qX0_sumUp (post : (Nat → Int32) → (Nat → Int64) → (Nat → Nat → Int32) → (Nat → Nat → Int64) → Prop) (I : Nat → Int32) (J : Nat → Int64) (R : Nat → Nat → Int32) (G : Nat → Nat → Int64) : Prop := vp_in (I 2) 15 ∧ (∀ x1_2 : Int32, x1_2 = (I 2) - (1 : Int32) → (qX0_sumUp_47 post x1_2 I J (va_up R 8 (upd (R 8) (I 2).toNatClampNeg (0 : Int32))) (va_up (va_up (va_up G 6 (vp_updL (G 6) (I 2).toNatClampNeg (0 : Int64))) 7 (vp_updL (G 7) (I 2).toNatClampNeg (0 : Int64))) 9 (vp_updL (G 9) (I 2).toNatClampNeg (0 : Int64)))))
theorem mX0_sumUp_f22 : Cond.fieldLink RX0 22 "YearBook$Chooser" "shownFrom" "[J" ∈ wsX0_sumUp := by decide +kernel
theorem nX0_sumUp_X0 : ∀ w ∈ u_ws RX0 TX0 14, w ∈ wsX0_sumUp := by decide +kernel
theorem mX0_sumUp_f41 : Cond.fieldLink RX0 41 "YearBook$Chooser" "size" "I" ∈ wsX0_sumUp := by decide +kernel
theorem mX0_sumUp_f25 : Cond.fieldLink RX0 25 "YearBook$Chooser" "wishedShownFrom" "[J" ∈ wsX0_sumUp := by decide +kernel
theorem mX0_sumUp_f28 : Cond.fieldLink RX0 28 "YearBook$Chooser" "wishedBitsFrom" "[I" ∈ wsX0_sumUp := by decide +kernel
theorem mX0_sumUp_f31 : Cond.fieldLink RX0 31 "YearBook$Chooser" "wishedMarksFrom" "[J" ∈ wsX0_sumUp := by decide +kernel
theorem mX0_sumUp_f19 : Cond.fieldLink RX0 19 "YearBook$Chooser" "marks" "[J" ∈ wsX0_sumUp := by decide +kernel
theorem mX0_sumUp_f15 : Cond.fieldLink RX0 15 "YearBook$Chooser" "shown" "[J" ∈ wsX0_sumUp := by decide +kernel
theorem mX0_sumUp_f9 : Cond.fieldLink RX0 9 "YearBook$Chooser" "bits" "[I" ∈ wsX0_sumUp := by decide +kernel
set_option maxHeartbeats 4000000 in
set_option maxRecDepth 100000 in
theorem tX0_sumUp (l : Launch) (dC : Nat → ClassId) (dI : Nat → Nat → Nat) (cI : ClassId) (cJ : ClassId) (h : Nat) (ad : Nat → Nat)  (sz : Nat) (post : (Nat → Int32) → (Nat → Int64) → (Nat → Nat → Int32) → (Nat → Nat → Int64) → Prop) (I : Nat → Int32) (J : Nat → Int64) (R : Nat → Nat → Int32) (G : Nat → Nat → Int64) (hq : qX0_sumUp post I J R G) : Met l yX0_sumUp wsX0_sumUp ({ frames := 0, cells := 0, slots := 0, locals := 0 } : Room) (va_Pc [.ref h] (wPre (dC, dI) vwCl [(cI, .int), (cJ, .long)] (wd0 cI cJ h ad I J R G) sz)) (va_Qv (fun (u : (Nat → Int32) × (Nat → Int64) × (Nat → Nat → Int32) × (Nat → Nat → Int64)) => post u.1 u.2.1 u.2.2.1 u.2.2.2) (wAt (dC, dI) vwCl [(cI, .int), (cJ, .long)] (va_A (wd0 cI cJ h ad I J R G) sz) (fun u : (Nat → Int32) × (Nat → Int64) × (Nat → Nat → Int32) × (Nat → Nat → Int64) => wd0 cI cJ h ad u.1 u.2.1 u.2.2.1 u.2.2.2)) (va_A (wd0 cI cJ h ad I J R G) sz)) 0 0 (va_A (wd0 cI cJ h ad I J R G) sz) := by
  unfold qX0_sumUp at hq
  refine Met.ofW (cc := cX0_sumUp) (maxL := 3) (ret := none) (by decide) rfl ?_
  intro p e s m args below meth c s₁ B hml hv
  obtain ⟨rfl, hsz, hP, hK, hD0⟩ := hv
  have hx := B.exec
  have hb := B.bytes
  have hr := B.returns
  have hts := atoms_spec (ws := wsX0_sumUp) B.pre
  have hown : s.vm.findClass RX0 = some m.cls := findClass_of_methodNamed B.named
  have hlocks := B.notSynchronized
  subst hsz
  have hD := hD0.self (sz := s.heap.size)
  generalize hAe : va_A (wd0 cI cJ h ad I J R G) s.heap.size = A at hD ⊢
  have hA : ∀ q : Nat, s.heap.size ≤ q → A q := fun q h => by rw [← hAe]; exact Or.inr h
  have hS : va_S A s.heap s.heap [] := va_S.rf
  have hZ : zX0_sumUp post
      (fun (x1 : Int32) (I : Nat → Int32) (J : Nat → Int64) (R : Nat → Nat → Int32) (G : Nat → Nat → Int64) => ∀ (H : Heap) (locs : List Loc) (ls : Array Slot), va_P (dC, dI) vwCl (wd0 cI cJ h ad I J R G) H → va_D A (wd0 cI cJ h ad I J R G) → va_S A s.heap H locs → lv_has ls 3 [(0, .ref h), (1, .int x1)] → W p l e (headSpec wsX0_sumUp ({ frames := 0, cells := 0, slots := 0, locals := 0 } : Room)).room s m ([.ref h] : List Value).toArray below meth c H locs 0 0 (MQ below (va_Qv (fun (u : (Nat → Int32) × (Nat → Int64) × (Nat → Nat → Int32) × (Nat → Nat → Int64)) => post u.1 u.2.1 u.2.2.1 u.2.2.2) (wAt (dC, dI) vwCl [(cI, .int), (cJ, .long)] A (fun u : (Nat → Int32) × (Nat → Int64) × (Nat → Nat → Int32) × (Nat → Nat → Int64) => wd0 cI cJ h ad u.1 u.2.1 u.2.2.1 u.2.2.2)) A) ([.ref h] : List Value).toArray s 0 0 A) (F0 m 47 ls []))
      (fun (x1 : Int32) (k0 : Int32) (I : Nat → Int32) (J : Nat → Int64) (R : Nat → Nat → Int32) (G : Nat → Nat → Int64) => ∀ (H : Heap) (locs : List Loc) (ls : Array Slot), va_P (dC, dI) vwCl (wd0 cI cJ h ad I J R G) H → va_D A (wd0 cI cJ h ad I J R G) → va_S A s.heap H locs → lv_has ls 3 [(0, .ref h), (1, .int x1)] → W p l e (headSpec wsX0_sumUp ({ frames := 0, cells := 0, slots := 0, locals := 0 } : Room)).room s m ([.ref h] : List Value).toArray below meth c H locs 0 0 (MQ below (va_Qv (fun (u : (Nat → Int32) × (Nat → Int64) × (Nat → Nat → Int32) × (Nat → Nat → Int64)) => post u.1 u.2.1 u.2.2.1 u.2.2.2) (wAt (dC, dI) vwCl [(cI, .int), (cJ, .long)] A (fun u : (Nat → Int32) × (Nat → Int64) × (Nat → Nat → Int32) × (Nat → Nat → Int64) => wd0 cI cJ h ad u.1 u.2.1 u.2.2.1 u.2.2.2)) A) ([.ref h] : List Value).toArray s 0 0 A) (F0 m 67 ls [.int k0]))
      (fun (x1 : Int32) (x2 : Int32) (k0 : Int64) (k1 : Int64) (k2 : Int32) (I : Nat → Int32) (J : Nat → Int64) (R : Nat → Nat → Int32) (G : Nat → Nat → Int64) => ∀ (H : Heap) (locs : List Loc) (ls : Array Slot), va_P (dC, dI) vwCl (wd0 cI cJ h ad I J R G) H → va_D A (wd0 cI cJ h ad I J R G) → va_S A s.heap H locs → lv_has ls 3 [(0, .ref h), (1, .int x1), (2, .int x2)] → W p l e (headSpec wsX0_sumUp ({ frames := 0, cells := 0, slots := 0, locals := 0 } : Room)).room s m ([.ref h] : List Value).toArray below meth c H locs 0 0 (MQ below (va_Qv (fun (u : (Nat → Int32) × (Nat → Int64) × (Nat → Nat → Int32) × (Nat → Nat → Int64)) => post u.1 u.2.1 u.2.2.1 u.2.2.2) (wAt (dC, dI) vwCl [(cI, .int), (cJ, .long)] A (fun u : (Nat → Int32) × (Nat → Int64) × (Nat → Nat → Int32) × (Nat → Nat → Int64) => wd0 cI cJ h ad u.1 u.2.1 u.2.2.1 u.2.2.2)) A) ([.ref h] : List Value).toArray s 0 0 A) (F0 m 116 ls [.long k0, .long k1, .int k2, .ref (ad 7)]))
      (fun (x1 : Int32) (x2 : Int32) (k0 : Int32) (k1 : Int32) (k2 : Int32) (I : Nat → Int32) (J : Nat → Int64) (R : Nat → Nat → Int32) (G : Nat → Nat → Int64) => ∀ (H : Heap) (locs : List Loc) (ls : Array Slot), va_P (dC, dI) vwCl (wd0 cI cJ h ad I J R G) H → va_D A (wd0 cI cJ h ad I J R G) → va_S A s.heap H locs → lv_has ls 3 [(0, .ref h), (1, .int x1), (2, .int x2)] → W p l e (headSpec wsX0_sumUp ({ frames := 0, cells := 0, slots := 0, locals := 0 } : Room)).room s m ([.ref h] : List Value).toArray below meth c H locs 0 0 (MQ below (va_Qv (fun (u : (Nat → Int32) × (Nat → Int64) × (Nat → Nat → Int32) × (Nat → Nat → Int64)) => post u.1 u.2.1 u.2.2.1 u.2.2.2) (wAt (dC, dI) vwCl [(cI, .int), (cJ, .long)] A (fun u : (Nat → Int32) × (Nat → Int64) × (Nat → Nat → Int32) × (Nat → Nat → Int64) => wd0 cI cJ h ad u.1 u.2.1 u.2.2.1 u.2.2.2)) A) ([.ref h] : List Value).toArray s 0 0 A) (F0 m 145 ls [.int k0, .int k1, .int k2, .ref (ad 8)]))
      (fun (x1 : Int32) (k0 : Int64) (k1 : Int64) (k2 : Int32) (I : Nat → Int32) (J : Nat → Int64) (R : Nat → Nat → Int32) (G : Nat → Nat → Int64) => ∀ (H : Heap) (locs : List Loc) (ls : Array Slot), va_P (dC, dI) vwCl (wd0 cI cJ h ad I J R G) H → va_D A (wd0 cI cJ h ad I J R G) → va_S A s.heap H locs → lv_has ls 3 [(0, .ref h), (1, .int x1)] → W p l e (headSpec wsX0_sumUp ({ frames := 0, cells := 0, slots := 0, locals := 0 } : Room)).room s m ([.ref h] : List Value).toArray below meth c H locs 0 0 (MQ below (va_Qv (fun (u : (Nat → Int32) × (Nat → Int64) × (Nat → Nat → Int32) × (Nat → Nat → Int64)) => post u.1 u.2.1 u.2.2.1 u.2.2.2) (wAt (dC, dI) vwCl [(cI, .int), (cJ, .long)] A (fun u : (Nat → Int32) × (Nat → Int64) × (Nat → Nat → Int32) × (Nat → Nat → Int64) => wd0 cI cJ h ad u.1 u.2.1 u.2.2.1 u.2.2.2)) A) ([.ref h] : List Value).toArray s 0 0 A) (F0 m 174 ls [.long k0, .long k1, .int k2, .ref (ad 9)])) := by
    refine ⟨?_, ?_, ?_, ?_, ?_⟩
    · intro x1 I J R G hq H locs ls hP hD hS hl
      refine lv_iload_n hx hb dX0_sumUp_47 rfl (lv_at hl 1 rfl) ?_
      refine lv_if_lt (tgt := 182) hx hb dX0_sumUp_48 (by decide) (fun hc => ?_) (fun hc => ?_)
      · have hq := hq.1 hc
        exact w_vret (post := fun (u : (Nat → Int32) × (Nat → Int64) × (Nat → Nat → Int32) × (Nat → Nat → Int64)) => post u.1 u.2.1 u.2.2.1 u.2.2.2) (wf := fun u : (Nat → Int32) × (Nat → Int64) × (Nat → Nat → Int32) × (Nat → Nat → Int64) => wd0 cI cJ h ad u.1 u.2.1 u.2.2.1 u.2.2.2) (u := (I, J, R, G)) hx hb hr hK hP hD hS hq dX0_sumUp_182 hlocks
      · have hq := hq.2 hc
        refine lv_aload_n hx hb dX0_sumUp_51 rfl (lv_at hl 0 rfl) ?_
        refine va_get (D := (dC, dI)) (ci := 0) (v := .ref (ad 5)) (C := RX0) (T := TX0) (N := 14) hx hb hts nX0_sumUp_X0 hown hK hP 0 rfl rfl 5 (by decide) (hts _ mX0_sumUp_f19) (fun _ h9 => h9) rfl dX0_sumUp_52 ?_
        refine lv_iload_n hx hb dX0_sumUp_55 rfl (lv_at hl 1 rfl) ?_
        obtain ⟨hi_3, hq⟩ := hq
        refine va_lald (f := G 5) hx hb hK hP 3 1 rfl rfl hi_3 dX0_sumUp_56 ?_
        refine lv_lconst (v := (0 : Int64)) hx hb dX0_sumUp_57 (by decide) ?_
        refine W.lcmp hx hb dX0_sumUp_58 ?_
        refine lv_if_le (tgt := 66) hx hb dX0_sumUp_59 (by decide) (fun hc => ?_) (fun hc => ?_)
        · have hq := hq.1 hc
          refine lv_iconst (v := (0 : Int32)) hx hb dX0_sumUp_66 (by decide) ?_
          exact hq _ _ ls hP hD hS (lv_sub hl [0, 1] rfl)
        · have hq := hq.2 hc
          refine lv_iconst (v := (1 : Int32)) hx hb dX0_sumUp_62 (by decide) ?_
          refine lv_goto (tgt := 67) hx hb dX0_sumUp_63 (by decide) ?_
          exact hq _ _ ls hP hD hS (lv_sub hl [0, 1] rfl)
    · intro x1 k0 I J R G hq H locs ls hP hD hS hl
      refine lv_istore_n (lv' := [(2, .int k0), (0, .ref h), (1, .int x1)]) hx hb dX0_sumUp_67 rfl hl (by decide) rfl (fun ls hl => ?_)
      refine lv_aload_n hx hb dX0_sumUp_68 rfl (lv_at hl 1 rfl) ?_
      refine va_get (D := (dC, dI)) (ci := 0) (v := .ref (ad 6)) (C := RX0) (T := TX0) (N := 14) hx hb hts nX0_sumUp_X0 hown hK hP 0 rfl rfl 6 (by decide) (hts _ mX0_sumUp_f22) (fun _ h9 => h9) rfl dX0_sumUp_69 ?_
      refine lv_iload_n hx hb dX0_sumUp_72 rfl (lv_at hl 2 rfl) ?_
      refine lv_aload_n hx hb dX0_sumUp_73 rfl (lv_at hl 1 rfl) ?_
      refine va_get (D := (dC, dI)) (ci := 0) (v := .ref (ad 6)) (C := RX0) (T := TX0) (N := 14) hx hb hts nX0_sumUp_X0 hown hK hP 0 rfl rfl 6 (by decide) (hts _ mX0_sumUp_f22) (fun _ h9 => h9) rfl dX0_sumUp_74 ?_
      refine lv_iload_n hx hb dX0_sumUp_77 rfl (lv_at hl 2 rfl) ?_
      refine lv_iconst (v := (1 : Int32)) hx hb dX0_sumUp_78 (by decide) ?_
      refine lv_iadd hx hb dX0_sumUp_79 ?_
      obtain ⟨hi_4, hq⟩ := hq
      refine va_lald (f := G 6) hx hb hK hP 4 1 rfl rfl hi_4 dX0_sumUp_80 ?_
      refine lv_aload_n hx hb dX0_sumUp_81 rfl (lv_at hl 1 rfl) ?_
      refine va_get (D := (dC, dI)) (ci := 0) (v := .ref (ad 4)) (C := RX0) (T := TX0) (N := 14) hx hb hts nX0_sumUp_X0 hown hK hP 0 rfl rfl 4 (by decide) (hts _ mX0_sumUp_f15) (fun _ h9 => h9) rfl dX0_sumUp_82 ?_
      refine lv_iload_n hx hb dX0_sumUp_85 rfl (lv_at hl 2 rfl) ?_
      obtain ⟨hi_5, hq⟩ := hq
      refine va_lald (f := G 4) hx hb hK hP 2 1 rfl rfl hi_5 dX0_sumUp_86 ?_
      refine lv_ladd hx hb dX0_sumUp_87 ?_
      obtain ⟨hi_6, hq⟩ := hq
      refine va_last (f := G 6) hx hb hK hP hD hS 4 1 rfl rfl hi_6 dX0_sumUp_88 (fun H locs hP hD hS => ?_)
      rw [wd0_G6] at hP hD
      refine lv_aload_n hx hb dX0_sumUp_89 rfl (lv_at hl 1 rfl) ?_
      refine va_get (D := (dC, dI)) (ci := 0) (v := .ref (ad 7)) (C := RX0) (T := TX0) (N := 14) hx hb hts nX0_sumUp_X0 hown hK hP 0 rfl rfl 7 (by decide) (hts _ mX0_sumUp_f25) (fun _ h9 => h9) rfl dX0_sumUp_90 ?_
      refine lv_iload_n hx hb dX0_sumUp_93 rfl (lv_at hl 2 rfl) ?_
      refine lv_aload_n hx hb dX0_sumUp_94 rfl (lv_at hl 1 rfl) ?_
      refine va_get (D := (dC, dI)) (ci := 0) (v := .ref (ad 7)) (C := RX0) (T := TX0) (N := 14) hx hb hts nX0_sumUp_X0 hown hK hP 0 rfl rfl 7 (by decide) (hts _ mX0_sumUp_f25) (fun _ h9 => h9) rfl dX0_sumUp_95 ?_
      refine lv_iload_n hx hb dX0_sumUp_98 rfl (lv_at hl 2 rfl) ?_
      refine lv_iconst (v := (1 : Int32)) hx hb dX0_sumUp_99 (by decide) ?_
      refine lv_iadd hx hb dX0_sumUp_100 ?_
      refine va_lald (f := G 7) hx hb hK hP 5 1 rfl rfl hi_4 dX0_sumUp_101 ?_
      refine lv_iload_n hx hb dX0_sumUp_102 rfl (lv_at hl 0 rfl) ?_
      refine lv_if_eq (tgt := 115) hx hb dX0_sumUp_103 (by decide) (fun hc => ?_) (fun hc => ?_)
      · have hq := hq.1 hc
        refine lv_lconst (v := (0 : Int64)) hx hb dX0_sumUp_115 (by decide) ?_
        exact hq _ _ ls hP hD hS (lv_sub hl [1, 2, 0] rfl)
      · have hq := hq.2 hc
        refine lv_aload_n hx hb dX0_sumUp_106 rfl (lv_at hl 1 rfl) ?_
        refine va_get (D := (dC, dI)) (ci := 0) (v := .ref (ad 4)) (C := RX0) (T := TX0) (N := 14) hx hb hts nX0_sumUp_X0 hown hK hP 0 rfl rfl 4 (by decide) (hts _ mX0_sumUp_f15) (fun _ h9 => h9) rfl dX0_sumUp_107 ?_
        refine lv_iload_n hx hb dX0_sumUp_110 rfl (lv_at hl 2 rfl) ?_
        refine va_lald (f := G 4) hx hb hK hP 2 1 rfl rfl hi_5 dX0_sumUp_111 ?_
        refine lv_goto (tgt := 116) hx hb dX0_sumUp_112 (by decide) ?_
        exact hq _ _ ls hP hD hS (lv_sub hl [1, 2, 0] rfl)
    · intro x1 x2 k0 k1 k2 I J R G hq H locs ls hP hD hS hl
      refine lv_ladd hx hb dX0_sumUp_116 ?_
      obtain ⟨hi_7, hq⟩ := hq
      refine va_last (f := G 7) hx hb hK hP hD hS 5 1 rfl rfl hi_7 dX0_sumUp_117 (fun H locs hP hD hS => ?_)
      rw [wd0_G7] at hP hD
      refine lv_aload_n hx hb dX0_sumUp_118 rfl (lv_at hl 0 rfl) ?_
      refine va_get (D := (dC, dI)) (ci := 0) (v := .ref (ad 8)) (C := RX0) (T := TX0) (N := 14) hx hb hts nX0_sumUp_X0 hown hK hP 0 rfl rfl 8 (by decide) (hts _ mX0_sumUp_f28) (fun _ h9 => h9) rfl dX0_sumUp_119 ?_
      refine lv_iload_n hx hb dX0_sumUp_122 rfl (lv_at hl 1 rfl) ?_
      refine lv_aload_n hx hb dX0_sumUp_123 rfl (lv_at hl 0 rfl) ?_
      refine va_get (D := (dC, dI)) (ci := 0) (v := .ref (ad 8)) (C := RX0) (T := TX0) (N := 14) hx hb hts nX0_sumUp_X0 hown hK hP 0 rfl rfl 8 (by decide) (hts _ mX0_sumUp_f28) (fun _ h9 => h9) rfl dX0_sumUp_124 ?_
      refine lv_iload_n hx hb dX0_sumUp_127 rfl (lv_at hl 1 rfl) ?_
      refine lv_iconst (v := (1 : Int32)) hx hb dX0_sumUp_128 (by decide) ?_
      refine lv_iadd hx hb dX0_sumUp_129 ?_
      obtain ⟨hi_8, hq⟩ := hq
      refine va_iald (f := R 8) hx hb hK hP 6 0 rfl rfl hi_8 dX0_sumUp_130 ?_
      refine lv_iload_n hx hb dX0_sumUp_131 rfl (lv_at hl 2 rfl) ?_
      refine lv_if_eq (tgt := 144) hx hb dX0_sumUp_132 (by decide) (fun hc => ?_) (fun hc => ?_)
      · have hq := hq.1 hc
        refine lv_iconst (v := (0 : Int32)) hx hb dX0_sumUp_144 (by decide) ?_
        exact hq _ _ ls hP hD hS (lv_sub hl [0, 1, 2] rfl)
      · have hq := hq.2 hc
        refine lv_aload_n hx hb dX0_sumUp_135 rfl (lv_at hl 0 rfl) ?_
        refine va_get (D := (dC, dI)) (ci := 0) (v := .ref (ad 3)) (C := RX0) (T := TX0) (N := 14) hx hb hts nX0_sumUp_X0 hown hK hP 0 rfl rfl 3 (by decide) (hts _ mX0_sumUp_f9) (fun _ h9 => h9) rfl dX0_sumUp_136 ?_
        refine lv_iload_n hx hb dX0_sumUp_139 rfl (lv_at hl 1 rfl) ?_
        obtain ⟨hi_9, hq⟩ := hq
        refine va_iald (f := R 3) hx hb hK hP 1 0 rfl rfl hi_9 dX0_sumUp_140 ?_
        refine lv_goto (tgt := 145) hx hb dX0_sumUp_141 (by decide) ?_
        exact hq _ _ ls hP hD hS (lv_sub hl [0, 1, 2] rfl)
    · intro x1 x2 k0 k1 k2 I J R G hq H locs ls hP hD hS hl
      refine lv_ior hx hb dX0_sumUp_145 ?_
      obtain ⟨hi_10, hq⟩ := hq
      refine va_iast (f := R 8) hx hb hK hP hD hS 6 0 rfl rfl hi_10 dX0_sumUp_146 (fun H locs hP hD hS => ?_)
      rw [wd0_R8] at hP hD
      refine lv_aload_n hx hb dX0_sumUp_147 rfl (lv_at hl 0 rfl) ?_
      refine va_get (D := (dC, dI)) (ci := 0) (v := .ref (ad 9)) (C := RX0) (T := TX0) (N := 14) hx hb hts nX0_sumUp_X0 hown hK hP 0 rfl rfl 9 (by decide) (hts _ mX0_sumUp_f31) (fun _ h9 => h9) rfl dX0_sumUp_148 ?_
      refine lv_iload_n hx hb dX0_sumUp_151 rfl (lv_at hl 1 rfl) ?_
      refine lv_aload_n hx hb dX0_sumUp_152 rfl (lv_at hl 0 rfl) ?_
      refine va_get (D := (dC, dI)) (ci := 0) (v := .ref (ad 9)) (C := RX0) (T := TX0) (N := 14) hx hb hts nX0_sumUp_X0 hown hK hP 0 rfl rfl 9 (by decide) (hts _ mX0_sumUp_f31) (fun _ h9 => h9) rfl dX0_sumUp_153 ?_
      refine lv_iload_n hx hb dX0_sumUp_156 rfl (lv_at hl 1 rfl) ?_
      refine lv_iconst (v := (1 : Int32)) hx hb dX0_sumUp_157 (by decide) ?_
      refine lv_iadd hx hb dX0_sumUp_158 ?_
      obtain ⟨hi_11, hq⟩ := hq
      refine va_lald (f := G 9) hx hb hK hP 7 1 rfl rfl hi_11 dX0_sumUp_159 ?_
      refine lv_iload_n hx hb dX0_sumUp_160 rfl (lv_at hl 2 rfl) ?_
      refine lv_if_eq (tgt := 173) hx hb dX0_sumUp_161 (by decide) (fun hc => ?_) (fun hc => ?_)
      · have hq := hq.1 hc
        refine lv_lconst (v := (0 : Int64)) hx hb dX0_sumUp_173 (by decide) ?_
        exact hq _ _ ls hP hD hS (lv_sub hl [0, 1] rfl)
      · have hq := hq.2 hc
        refine lv_aload_n hx hb dX0_sumUp_164 rfl (lv_at hl 0 rfl) ?_
        refine va_get (D := (dC, dI)) (ci := 0) (v := .ref (ad 5)) (C := RX0) (T := TX0) (N := 14) hx hb hts nX0_sumUp_X0 hown hK hP 0 rfl rfl 5 (by decide) (hts _ mX0_sumUp_f19) (fun _ h9 => h9) rfl dX0_sumUp_165 ?_
        refine lv_iload_n hx hb dX0_sumUp_168 rfl (lv_at hl 1 rfl) ?_
        obtain ⟨hi_12, hq⟩ := hq
        refine va_lald (f := G 5) hx hb hK hP 3 1 rfl rfl hi_12 dX0_sumUp_169 ?_
        refine lv_goto (tgt := 174) hx hb dX0_sumUp_170 (by decide) ?_
        exact hq _ _ ls hP hD hS (lv_sub hl [0, 1] rfl)
    · intro x1 k0 k1 k2 I J R G hq H locs ls hP hD hS hl
      refine lv_ladd hx hb dX0_sumUp_174 ?_
      obtain ⟨hi_13, hq⟩ := hq
      refine va_last (f := G 9) hx hb hK hP hD hS 7 1 rfl rfl hi_13 dX0_sumUp_175 (fun H locs hP hD hS => ?_)
      rw [wd0_G9] at hP hD
      refine lv_iinc (v := x1 + (-1 : Int32)) (lv' := [(1, .int (x1 + (-1 : Int32))), (0, .ref h)]) hx hb dX0_sumUp_176 hl (k := 1) rfl rfl (by decide) rfl (fun ls hl => ?_)
      refine lv_goto (tgt := 47) hx hb dX0_sumUp_179 (by decide) ?_
      exact hq _ _ ls hP hD hS (lv_sub hl [1, 0] rfl)
  have hl := lv_entry ([.ref h]) (n := 3) (Nat.le_of_ble_eq_true rfl)
  rw [lg_entry_eq]
  generalize (lg_sl ([.ref h]) ++ List.replicate (3 - (lg_sl ([.ref h])).length) Slot.unset).toArray = ls at hl ⊢
  have hl : lv_has ls 3 [(0, .ref h)] := hl
  refine lv_aload_n hx hb dX0_sumUp_0 rfl (lv_at hl 0 rfl) ?_
  refine va_get (D := (dC, dI)) (ci := 0) (v := .ref (ad 6)) (C := RX0) (T := TX0) (N := 14) hx hb hts nX0_sumUp_X0 hown hK hP 0 rfl rfl 6 (by decide) (hts _ mX0_sumUp_f22) (fun _ h9 => h9) rfl dX0_sumUp_1 ?_
  refine lv_aload_n hx hb dX0_sumUp_4 rfl (lv_at hl 0 rfl) ?_
  refine va_get (D := (dC, dI)) (ci := 0) (v := .int (I 2)) (C := RX0) (T := TX0) (N := 14) hx hb hts nX0_sumUp_X0 hown hK hP 0 rfl rfl 2 (by decide) (hts _ mX0_sumUp_f41) (fun _ h9 => h9) rfl dX0_sumUp_5 ?_
  refine lv_lconst (v := (0 : Int64)) hx hb dX0_sumUp_8 (by decide) ?_
  obtain ⟨hi_1, hq⟩ := hq
  refine va_last (f := G 6) hx hb hK hP hD hS 4 1 rfl rfl hi_1 dX0_sumUp_9 (fun H locs hP hD hS => ?_)
  rw [wd0_G6] at hP hD
  refine lv_aload_n hx hb dX0_sumUp_10 rfl (lv_at hl 0 rfl) ?_
  refine va_get (D := (dC, dI)) (ci := 0) (v := .ref (ad 7)) (C := RX0) (T := TX0) (N := 14) hx hb hts nX0_sumUp_X0 hown hK hP 0 rfl rfl 7 (by decide) (hts _ mX0_sumUp_f25) (fun _ h9 => h9) rfl dX0_sumUp_11 ?_
  refine lv_aload_n hx hb dX0_sumUp_14 rfl (lv_at hl 0 rfl) ?_
  refine va_get (D := (dC, dI)) (ci := 0) (v := .int (I 2)) (C := RX0) (T := TX0) (N := 14) hx hb hts nX0_sumUp_X0 hown hK hP 0 rfl rfl 2 (by decide) (hts _ mX0_sumUp_f41) (fun _ h9 => h9) rfl dX0_sumUp_15 ?_
  refine lv_lconst (v := (0 : Int64)) hx hb dX0_sumUp_18 (by decide) ?_
  refine va_last (f := G 7) hx hb hK hP hD hS 5 1 rfl rfl hi_1 dX0_sumUp_19 (fun H locs hP hD hS => ?_)
  rw [wd0_G7] at hP hD
  refine lv_aload_n hx hb dX0_sumUp_20 rfl (lv_at hl 0 rfl) ?_
  refine va_get (D := (dC, dI)) (ci := 0) (v := .ref (ad 8)) (C := RX0) (T := TX0) (N := 14) hx hb hts nX0_sumUp_X0 hown hK hP 0 rfl rfl 8 (by decide) (hts _ mX0_sumUp_f28) (fun _ h9 => h9) rfl dX0_sumUp_21 ?_
  refine lv_aload_n hx hb dX0_sumUp_24 rfl (lv_at hl 0 rfl) ?_
  refine va_get (D := (dC, dI)) (ci := 0) (v := .int (I 2)) (C := RX0) (T := TX0) (N := 14) hx hb hts nX0_sumUp_X0 hown hK hP 0 rfl rfl 2 (by decide) (hts _ mX0_sumUp_f41) (fun _ h9 => h9) rfl dX0_sumUp_25 ?_
  refine lv_iconst (v := (0 : Int32)) hx hb dX0_sumUp_28 (by decide) ?_
  refine va_iast (f := R 8) hx hb hK hP hD hS 6 0 rfl rfl hi_1 dX0_sumUp_29 (fun H locs hP hD hS => ?_)
  rw [wd0_R8] at hP hD
  refine lv_aload_n hx hb dX0_sumUp_30 rfl (lv_at hl 0 rfl) ?_
  refine va_get (D := (dC, dI)) (ci := 0) (v := .ref (ad 9)) (C := RX0) (T := TX0) (N := 14) hx hb hts nX0_sumUp_X0 hown hK hP 0 rfl rfl 9 (by decide) (hts _ mX0_sumUp_f31) (fun _ h9 => h9) rfl dX0_sumUp_31 ?_
  refine lv_aload_n hx hb dX0_sumUp_34 rfl (lv_at hl 0 rfl) ?_
  refine va_get (D := (dC, dI)) (ci := 0) (v := .int (I 2)) (C := RX0) (T := TX0) (N := 14) hx hb hts nX0_sumUp_X0 hown hK hP 0 rfl rfl 2 (by decide) (hts _ mX0_sumUp_f41) (fun _ h9 => h9) rfl dX0_sumUp_35 ?_
  refine lv_lconst (v := (0 : Int64)) hx hb dX0_sumUp_38 (by decide) ?_
  refine va_last (f := G 9) hx hb hK hP hD hS 7 1 rfl rfl hi_1 dX0_sumUp_39 (fun H locs hP hD hS => ?_)
  rw [wd0_G9] at hP hD
  refine lv_aload_n hx hb dX0_sumUp_40 rfl (lv_at hl 0 rfl) ?_
  refine va_get (D := (dC, dI)) (ci := 0) (v := .int (I 2)) (C := RX0) (T := TX0) (N := 14) hx hb hts nX0_sumUp_X0 hown hK hP 0 rfl rfl 2 (by decide) (hts _ mX0_sumUp_f41) (fun _ h9 => h9) rfl dX0_sumUp_41 ?_
  refine lv_iconst (v := (1 : Int32)) hx hb dX0_sumUp_44 (by decide) ?_
  refine lv_isub hx hb dX0_sumUp_45 ?_
  refine lv_topi (fun x1_2 ex1_2 => ?_)
  have hq := hq x1_2 ex1_2
  refine lv_istore_n (lv' := [(1, .int x1_2), (0, .ref h)]) hx hb dX0_sumUp_46 rfl hl (by decide) rfl (fun ls hl => ?_)
  exact hq _ _ _ _ _ hZ _ _ ls hP hD hS (lv_sub hl [1, 0] rfl)
