def qX0_begin (post : (Nat → Int32) → (Nat → Int64) → (Nat → Nat → Int32) → (Nat → Nat → Int64) → Prop) (p1 : Int32) (p2 : Int32) (I : Nat → Int32) (J : Nat → Int64) (R : Nat → Nat → Int32) (G : Nat → Nat → Int64) : Prop := post (va_up (va_up (va_up I 0 p1) 1 p2) 2 (0 : Int32)) (va_up J 10 (-1 : Int64)) R G
theorem mX0_begin_f34 : Cond.fieldLink RX0 34 "YearBook$Chooser" "low" "I" ∈ wsX0_begin := by decide +kernel
theorem nX0_begin_X0 : ∀ w ∈ u_ws RX0 TX0 14, w ∈ wsX0_begin := by decide +kernel
theorem mX0_begin_f38 : Cond.fieldLink RX0 38 "YearBook$Chooser" "high" "I" ∈ wsX0_begin := by decide +kernel
theorem mX0_begin_f41 : Cond.fieldLink RX0 41 "YearBook$Chooser" "size" "I" ∈ wsX0_begin := by decide +kernel
theorem mX0_begin_c44 : Cond.constantLong RX0 44 (-1) ∈ wsX0_begin := by decide +kernel
theorem mX0_begin_f46 : Cond.fieldLink RX0 46 "YearBook$Chooser" "notCounted" "J" ∈ wsX0_begin := by decide +kernel
set_option maxHeartbeats 4000000 in
set_option maxRecDepth 100000 in
theorem tX0_begin (l : Launch) (dC : Nat → ClassId) (dI : Nat → Nat → Nat) (cI : ClassId) (cJ : ClassId) (h : Nat) (ad : Nat → Nat)  (sz : Nat) (post : (Nat → Int32) → (Nat → Int64) → (Nat → Nat → Int32) → (Nat → Nat → Int64) → Prop) (p1 : Int32) (p2 : Int32) (I : Nat → Int32) (J : Nat → Int64) (R : Nat → Nat → Int32) (G : Nat → Nat → Int64) (hq : qX0_begin post p1 p2 I J R G) : Met l yX0_begin wsX0_begin ({ frames := 0, cells := 0, slots := 0, locals := 0 } : Room) (va_Pc [.ref h, .int p1, .int p2] (wPre (dC, dI) vwCl [(cI, .int), (cJ, .long)] (wd0 cI cJ h ad I J R G) sz)) (va_Qv (fun (u : (Nat → Int32) × (Nat → Int64) × (Nat → Nat → Int32) × (Nat → Nat → Int64)) => post u.1 u.2.1 u.2.2.1 u.2.2.2) (wAt (dC, dI) vwCl [(cI, .int), (cJ, .long)] (va_A (wd0 cI cJ h ad I J R G) sz) (fun u : (Nat → Int32) × (Nat → Int64) × (Nat → Nat → Int32) × (Nat → Nat → Int64) => wd0 cI cJ h ad u.1 u.2.1 u.2.2.1 u.2.2.2)) (va_A (wd0 cI cJ h ad I J R G) sz)) 0 0 (va_A (wd0 cI cJ h ad I J R G) sz) := by
  unfold qX0_begin at hq
  refine Met.ofW (cc := cX0_begin) (maxL := 3) (ret := none) (by decide) rfl ?_
  intro p e s m args below meth c s₁ B hml hv
  obtain ⟨rfl, hsz, hP, hK, hD0⟩ := hv
  have hx := B.exec
  have hb := B.bytes
  have hr := B.returns
  have hts := atoms_spec (ws := wsX0_begin) B.pre
  have hown : s.vm.findClass RX0 = some m.cls := findClass_of_methodNamed B.named
  have hlocks := B.notSynchronized
  subst hsz
  have hD := hD0.self (sz := s.heap.size)
  generalize hAe : va_A (wd0 cI cJ h ad I J R G) s.heap.size = A at hD ⊢
  have hA : ∀ q : Nat, s.heap.size ≤ q → A q := fun q h => by rw [← hAe]; exact Or.inr h
  have hS : va_S A s.heap s.heap [] := va_S.rf
  have hl := lv_entry ([.ref h, .int p1, .int p2]) (n := 3) (Nat.le_of_ble_eq_true rfl)
  rw [lg_entry_eq]
  generalize (lg_sl ([.ref h, .int p1, .int p2]) ++ List.replicate (3 - (lg_sl ([.ref h, .int p1, .int p2])).length) Slot.unset).toArray = ls at hl ⊢
  have hl : lv_has ls 3 [(0, .ref h), (1, .int p1), (2, .int p2)] := hl
  refine lv_aload_n hx hb dX0_begin_0 rfl (lv_at hl 0 rfl) ?_
  refine lv_iload_n hx hb dX0_begin_1 rfl (lv_at hl 1 rfl) ?_
  refine va_put (D := (dC, dI)) (ci := 0) (v := .int p1) (ty := .int) (C := RX0) (T := TX0) (N := 14) hx hb hts nX0_begin_X0 tyX0 tyX0_ok nmX0 hown hK hP hD hS 0 rfl rfl 0 (by decide) (hts _ mX0_begin_f34) (fun _ h9 => h9) rfl (by decide +kernel) rfl rfl (Nat.le_of_ble_eq_true rfl) dX0_begin_2 (fun H locs hP hD hS => ?_)
  rw [wd0_I0] at hP hD
  refine lv_aload_n hx hb dX0_begin_5 rfl (lv_at hl 0 rfl) ?_
  refine lv_iload_n hx hb dX0_begin_6 rfl (lv_at hl 2 rfl) ?_
  refine va_put (D := (dC, dI)) (ci := 0) (v := .int p2) (ty := .int) (C := RX0) (T := TX0) (N := 14) hx hb hts nX0_begin_X0 tyX0 tyX0_ok nmX0 hown hK hP hD hS 0 rfl rfl 1 (by decide) (hts _ mX0_begin_f38) (fun _ h9 => h9) rfl (by decide +kernel) rfl rfl (Nat.le_of_ble_eq_true rfl) dX0_begin_7 (fun H locs hP hD hS => ?_)
  rw [wd0_I1] at hP hD
  refine lv_aload_n hx hb dX0_begin_10 rfl (lv_at hl 0 rfl) ?_
  refine lv_iconst (v := (0 : Int32)) hx hb dX0_begin_11 (by decide) ?_
  refine va_put (D := (dC, dI)) (ci := 0) (v := .int (0 : Int32)) (ty := .int) (C := RX0) (T := TX0) (N := 14) hx hb hts nX0_begin_X0 tyX0 tyX0_ok nmX0 hown hK hP hD hS 0 rfl rfl 2 (by decide) (hts _ mX0_begin_f41) (fun _ h9 => h9) rfl (by decide +kernel) rfl rfl (Nat.le_of_ble_eq_true rfl) dX0_begin_12 (fun H locs hP hD hS => ?_)
  rw [wd0_I2] at hP hD
  refine lv_aload_n hx hb dX0_begin_15 rfl (lv_at hl 0 rfl) ?_
  refine lv_ldc2 (v := (-1 : Int64)) hx hb hown (hts _ mX0_begin_c44) dX0_begin_16 ?_
  refine va_put (D := (dC, dI)) (ci := 0) (v := .long (-1 : Int64)) (ty := .long) (C := RX0) (T := TX0) (N := 14) hx hb hts nX0_begin_X0 tyX0 tyX0_ok nmX0 hown hK hP hD hS 0 rfl rfl 10 (by decide) (hts _ mX0_begin_f46) (fun _ h9 => h9) rfl (by decide +kernel) rfl rfl (Nat.le_of_ble_eq_true rfl) dX0_begin_19 (fun H locs hP hD hS => ?_)
  rw [wd0_J10] at hP hD
  exact w_vret (post := fun (u : (Nat → Int32) × (Nat → Int64) × (Nat → Nat → Int32) × (Nat → Nat → Int64)) => post u.1 u.2.1 u.2.2.1 u.2.2.2) (wf := fun u : (Nat → Int32) × (Nat → Int64) × (Nat → Nat → Int32) × (Nat → Nat → Int64) => wd0 cI cJ h ad u.1 u.2.1 u.2.2.1 u.2.2.2) (u := (va_up (va_up (va_up I 0 p1) 1 p2) 2 (0 : Int32), va_up J 10 (-1 : Int64), R, G)) hx hb hr hK hP hD hS hq dX0_begin_22 hlocks
def qX0_someAbove (post : Int32 → Prop) (p1 : Int64) (I : Nat → Int32) (J : Nat → Int64) (R : Nat → Nat → Int32) (G : Nat → Nat → Int64) : Prop := ∀ x3_1 : Int64, x3_1 = (((127 : Int32) - (I 1)).toInt64) * (72340172838076673 : Int64) → (∀ x5_2 : Int64, x5_2 = (p1 &&& (1085102592571150095 : Int64)) + x3_1 → (∀ x7_3 : Int64, x7_3 = (((p1.toUInt64 >>> ((4 : Int32).toInt64.toUInt64 &&& Int64.toUInt64 63)).toInt64) &&& (1085102592571150095 : Int64)) + x3_1 → ((((lg_cmp ((x5_2 ||| x7_3) &&& (-9187201950435737472 : Int64)) (0 : Int64)) = 0) → (post (0 : Int32))) ∧ ((¬ (lg_cmp ((x5_2 ||| x7_3) &&& (-9187201950435737472 : Int64)) (0 : Int64)) = 0) → (post (1 : Int32))))))
theorem mX0_someAbove_f38 : Cond.fieldLink RX0 38 "YearBook$Chooser" "high" "I" ∈ wsX0_someAbove := by decide +kernel
theorem nX0_someAbove_X0 : ∀ w ∈ u_ws RX0 TX0 14, w ∈ wsX0_someAbove := by decide +kernel
theorem mX0_someAbove_c85 : Cond.constantLong RX0 85 (72340172838076673) ∈ wsX0_someAbove := by decide +kernel
theorem mX0_someAbove_c87 : Cond.constantLong RX0 87 (1085102592571150095) ∈ wsX0_someAbove := by decide +kernel
theorem mX0_someAbove_c89 : Cond.constantLong RX0 89 (-9187201950435737472) ∈ wsX0_someAbove := by decide +kernel
set_option maxHeartbeats 4000000 in
set_option maxRecDepth 100000 in
theorem tX0_someAbove (l : Launch) (dC : Nat → ClassId) (dI : Nat → Nat → Nat) (cI : ClassId) (cJ : ClassId) (h : Nat) (ad : Nat → Nat)  (sz : Nat) (post : Int32 → Prop) (p1 : Int64) (I : Nat → Int32) (J : Nat → Int64) (R : Nat → Nat → Int32) (G : Nat → Nat → Int64) (hq : qX0_someAbove post p1 I J R G) : Met l yX0_someAbove wsX0_someAbove ({ frames := 0, cells := 0, slots := 0, locals := 0 } : Room) (va_Pc [.ref h, .long p1] (wPre (dC, dI) vwCl [(cI, .int), (cJ, .long)] (wd0 cI cJ h ad I J R G) sz)) (va_Qi (fun r (_ : Unit) => post r ) (wAt (dC, dI) vwCl [(cI, .int), (cJ, .long)] (va_A (wd0 cI cJ h ad I J R G) sz) (fun _ : Unit => wd0 cI cJ h ad I J R G)) (va_A (wd0 cI cJ h ad I J R G) sz)) 0 0 (va_A (wd0 cI cJ h ad I J R G) sz) := by
  unfold qX0_someAbove at hq
  refine Met.ofW (cc := cX0_someAbove) (maxL := 9) (ret := (some .boolean)) (by decide) rfl ?_
  intro p e s m args below meth c s₁ B hml hv
  obtain ⟨rfl, hsz, hP, hK, hD0⟩ := hv
  have hx := B.exec
  have hb := B.bytes
  have hr := B.returns
  have hts := atoms_spec (ws := wsX0_someAbove) B.pre
  have hown : s.vm.findClass RX0 = some m.cls := findClass_of_methodNamed B.named
  have hlocks := B.notSynchronized
  subst hsz
  have hD := hD0.self (sz := s.heap.size)
  generalize hAe : va_A (wd0 cI cJ h ad I J R G) s.heap.size = A at hD ⊢
  have hA : ∀ q : Nat, s.heap.size ≤ q → A q := fun q h => by rw [← hAe]; exact Or.inr h
  have hS : va_S A s.heap s.heap [] := va_S.rf
  have hl := lv_entry ([.ref h, .long p1]) (n := 9) (Nat.le_of_ble_eq_true rfl)
  rw [lg_entry_eq]
  generalize (lg_sl ([.ref h, .long p1]) ++ List.replicate (9 - (lg_sl ([.ref h, .long p1])).length) Slot.unset).toArray = ls at hl ⊢
  have hl : lv_has ls 9 [(0, .ref h), (1, .long p1)] := hl
  refine lv_bipush (v := (127 : Int32)) hx hb dX0_someAbove_0 (by decide) ?_
  refine lv_aload_n hx hb dX0_someAbove_2 rfl (lv_at hl 0 rfl) ?_
  refine va_get (D := (dC, dI)) (ci := 0) (v := .int (I 1)) (C := RX0) (T := TX0) (N := 14) hx hb hts nX0_someAbove_X0 hown hK hP 0 rfl rfl 1 (by decide) (hts _ mX0_someAbove_f38) (fun _ h9 => h9) rfl dX0_someAbove_3 ?_
  refine lv_isub hx hb dX0_someAbove_6 ?_
  refine lv_i2l (v := ((127 : Int32) - (I 1)).toInt64) hx hb dX0_someAbove_7 rfl ?_
  refine lv_ldc2 (v := (72340172838076673 : Int64)) hx hb hown (hts _ mX0_someAbove_c85) dX0_someAbove_8 ?_
  refine lv_lmul hx hb dX0_someAbove_11 ?_
  refine lv_topl (fun x3_1 ex3_1 => ?_)
  have hq := hq x3_1 ex3_1
  refine lv_lstore_n (lv' := [(3, .long x3_1), (0, .ref h), (1, .long p1)]) hx hb dX0_someAbove_12 rfl hl (by decide) rfl (fun ls hl => ?_)
  refine lv_lload_n hx hb dX0_someAbove_13 rfl (lv_at hl 2 rfl) ?_
  refine lv_ldc2 (v := (1085102592571150095 : Int64)) hx hb hown (hts _ mX0_someAbove_c87) dX0_someAbove_14 ?_
  refine lv_land hx hb dX0_someAbove_17 ?_
  refine lv_lload_n hx hb dX0_someAbove_18 rfl (lv_at hl 0 rfl) ?_
  refine lv_ladd hx hb dX0_someAbove_19 ?_
  refine lv_topl (fun x5_2 ex5_2 => ?_)
  have hq := hq x5_2 ex5_2
  refine lv_lstore (lv' := [(5, .long x5_2), (3, .long x3_1), (0, .ref h), (1, .long p1)]) hx hb dX0_someAbove_20 hl (by decide) rfl (fun ls hl => ?_)
  refine lv_lload_n hx hb dX0_someAbove_22 rfl (lv_at hl 3 rfl) ?_
  refine lv_iconst (v := (4 : Int32)) hx hb dX0_someAbove_23 (by decide) ?_
  refine lv_lushr (v := (p1.toUInt64 >>> ((4 : Int32).toInt64.toUInt64 &&& Int64.toUInt64 63)).toInt64) hx hb dX0_someAbove_24 rfl ?_
  refine lv_ldc2 (v := (1085102592571150095 : Int64)) hx hb hown (hts _ mX0_someAbove_c87) dX0_someAbove_25 ?_
  refine lv_land hx hb dX0_someAbove_28 ?_
  refine lv_lload_n hx hb dX0_someAbove_29 rfl (lv_at hl 1 rfl) ?_
  refine lv_ladd hx hb dX0_someAbove_30 ?_
  refine lv_topl (fun x7_3 ex7_3 => ?_)
  have hq := hq x7_3 ex7_3
  refine lv_lstore (lv' := [(7, .long x7_3), (5, .long x5_2), (3, .long x3_1), (0, .ref h), (1, .long p1)]) hx hb dX0_someAbove_31 hl (by decide) rfl (fun ls hl => ?_)
  refine lv_lload hx hb dX0_someAbove_33 (lv_at hl 1 rfl) ?_
  refine lv_lload hx hb dX0_someAbove_35 (lv_at hl 0 rfl) ?_
  refine lv_lor hx hb dX0_someAbove_37 ?_
  refine lv_ldc2 (v := (-9187201950435737472 : Int64)) hx hb hown (hts _ mX0_someAbove_c89) dX0_someAbove_38 ?_
  refine lv_land hx hb dX0_someAbove_41 ?_
  refine lv_lconst (v := (0 : Int64)) hx hb dX0_someAbove_42 (by decide) ?_
  refine W.lcmp hx hb dX0_someAbove_43 ?_
  refine lv_if_eq (tgt := 51) hx hb dX0_someAbove_44 (by decide) (fun hc => ?_) (fun hc => ?_)
  · have hq := hq.1 hc
    refine lv_iconst (v := (0 : Int32)) hx hb dX0_someAbove_51 (by decide) ?_
    exact w_zret (post := fun r (_ : Unit) => post r ) (wf := fun _ : Unit => wd0 cI cJ h ad I J R G) (u := ()) hx hb hr rfl hK hP hD hS hq dX0_someAbove_52 hlocks
  · have hq := hq.2 hc
    refine lv_iconst (v := (1 : Int32)) hx hb dX0_someAbove_47 (by decide) ?_
    refine lv_goto (tgt := 52) hx hb dX0_someAbove_48 (by decide) ?_
    exact w_zret (post := fun r (_ : Unit) => post r ) (wf := fun _ : Unit => wd0 cI cJ h ad I J R G) (u := ()) hx hb hr rfl hK hP hD hS hq dX0_someAbove_52 hlocks
def qX0_someBelow (post : Int32 → Prop) (p1 : Int64) (I : Nat → Int32) (J : Nat → Int64) (R : Nat → Nat → Int32) (G : Nat → Nat → Int64) : Prop := ∀ x3_1 : Int64, x3_1 = p1 ||| (J 10) → (∀ x5_2 : Int64, x5_2 = (((128 : Int32) - (I 0)).toInt64) * (72340172838076673 : Int64) → (∀ x7_3 : Int64, x7_3 = (x3_1 &&& (1085102592571150095 : Int64)) + x5_2 → (∀ x9_4 : Int64, x9_4 = (((x3_1.toUInt64 >>> ((4 : Int32).toInt64.toUInt64 &&& Int64.toUInt64 63)).toInt64) &&& (1085102592571150095 : Int64)) + x5_2 → ((((lg_cmp ((x7_3 &&& x9_4) &&& (-9187201950435737472 : Int64)) (-9187201950435737472 : Int64)) = 0) → (post (0 : Int32))) ∧ ((¬ (lg_cmp ((x7_3 &&& x9_4) &&& (-9187201950435737472 : Int64)) (-9187201950435737472 : Int64)) = 0) → (post (1 : Int32)))))))
theorem mX0_someBelow_f46 : Cond.fieldLink RX0 46 "YearBook$Chooser" "notCounted" "J" ∈ wsX0_someBelow := by decide +kernel
theorem nX0_someBelow_X0 : ∀ w ∈ u_ws RX0 TX0 14, w ∈ wsX0_someBelow := by decide +kernel
theorem mX0_someBelow_f34 : Cond.fieldLink RX0 34 "YearBook$Chooser" "low" "I" ∈ wsX0_someBelow := by decide +kernel
theorem mX0_someBelow_c85 : Cond.constantLong RX0 85 (72340172838076673) ∈ wsX0_someBelow := by decide +kernel
theorem mX0_someBelow_c87 : Cond.constantLong RX0 87 (1085102592571150095) ∈ wsX0_someBelow := by decide +kernel
theorem mX0_someBelow_c89 : Cond.constantLong RX0 89 (-9187201950435737472) ∈ wsX0_someBelow := by decide +kernel
set_option maxHeartbeats 4000000 in
set_option maxRecDepth 100000 in
theorem tX0_someBelow (l : Launch) (dC : Nat → ClassId) (dI : Nat → Nat → Nat) (cI : ClassId) (cJ : ClassId) (h : Nat) (ad : Nat → Nat)  (sz : Nat) (post : Int32 → Prop) (p1 : Int64) (I : Nat → Int32) (J : Nat → Int64) (R : Nat → Nat → Int32) (G : Nat → Nat → Int64) (hq : qX0_someBelow post p1 I J R G) : Met l yX0_someBelow wsX0_someBelow ({ frames := 0, cells := 0, slots := 0, locals := 0 } : Room) (va_Pc [.ref h, .long p1] (wPre (dC, dI) vwCl [(cI, .int), (cJ, .long)] (wd0 cI cJ h ad I J R G) sz)) (va_Qi (fun r (_ : Unit) => post r ) (wAt (dC, dI) vwCl [(cI, .int), (cJ, .long)] (va_A (wd0 cI cJ h ad I J R G) sz) (fun _ : Unit => wd0 cI cJ h ad I J R G)) (va_A (wd0 cI cJ h ad I J R G) sz)) 0 0 (va_A (wd0 cI cJ h ad I J R G) sz) := by
  unfold qX0_someBelow at hq
  refine Met.ofW (cc := cX0_someBelow) (maxL := 11) (ret := (some .boolean)) (by decide) rfl ?_
  intro p e s m args below meth c s₁ B hml hv
  obtain ⟨rfl, hsz, hP, hK, hD0⟩ := hv
  have hx := B.exec
  have hb := B.bytes
  have hr := B.returns
  have hts := atoms_spec (ws := wsX0_someBelow) B.pre
  have hown : s.vm.findClass RX0 = some m.cls := findClass_of_methodNamed B.named
  have hlocks := B.notSynchronized
  subst hsz
  have hD := hD0.self (sz := s.heap.size)
  generalize hAe : va_A (wd0 cI cJ h ad I J R G) s.heap.size = A at hD ⊢
  have hA : ∀ q : Nat, s.heap.size ≤ q → A q := fun q h => by rw [← hAe]; exact Or.inr h
  have hS : va_S A s.heap s.heap [] := va_S.rf
  have hl := lv_entry ([.ref h, .long p1]) (n := 11) (Nat.le_of_ble_eq_true rfl)
  rw [lg_entry_eq]
  generalize (lg_sl ([.ref h, .long p1]) ++ List.replicate (11 - (lg_sl ([.ref h, .long p1])).length) Slot.unset).toArray = ls at hl ⊢
  have hl : lv_has ls 11 [(0, .ref h), (1, .long p1)] := hl
  refine lv_lload_n hx hb dX0_someBelow_0 rfl (lv_at hl 1 rfl) ?_
  refine lv_aload_n hx hb dX0_someBelow_1 rfl (lv_at hl 0 rfl) ?_
  refine va_get (D := (dC, dI)) (ci := 0) (v := .long (J 10)) (C := RX0) (T := TX0) (N := 14) hx hb hts nX0_someBelow_X0 hown hK hP 0 rfl rfl 10 (by decide) (hts _ mX0_someBelow_f46) (fun _ h9 => h9) rfl dX0_someBelow_2 ?_
  refine lv_lor hx hb dX0_someBelow_5 ?_
  refine lv_topl (fun x3_1 ex3_1 => ?_)
  have hq := hq x3_1 ex3_1
  refine lv_lstore_n (lv' := [(3, .long x3_1), (0, .ref h), (1, .long p1)]) hx hb dX0_someBelow_6 rfl hl (by decide) rfl (fun ls hl => ?_)
  refine lv_sipush (v := (128 : Int32)) hx hb dX0_someBelow_7 (si_128) ?_
  refine lv_aload_n hx hb dX0_someBelow_10 rfl (lv_at hl 1 rfl) ?_
  refine va_get (D := (dC, dI)) (ci := 0) (v := .int (I 0)) (C := RX0) (T := TX0) (N := 14) hx hb hts nX0_someBelow_X0 hown hK hP 0 rfl rfl 0 (by decide) (hts _ mX0_someBelow_f34) (fun _ h9 => h9) rfl dX0_someBelow_11 ?_
  refine lv_isub hx hb dX0_someBelow_14 ?_
  refine lv_i2l (v := ((128 : Int32) - (I 0)).toInt64) hx hb dX0_someBelow_15 rfl ?_
  refine lv_ldc2 (v := (72340172838076673 : Int64)) hx hb hown (hts _ mX0_someBelow_c85) dX0_someBelow_16 ?_
  refine lv_lmul hx hb dX0_someBelow_19 ?_
  refine lv_topl (fun x5_2 ex5_2 => ?_)
  have hq := hq x5_2 ex5_2
  refine lv_lstore (lv' := [(5, .long x5_2), (3, .long x3_1), (0, .ref h), (1, .long p1)]) hx hb dX0_someBelow_20 hl (by decide) rfl (fun ls hl => ?_)
  refine lv_lload_n hx hb dX0_someBelow_22 rfl (lv_at hl 1 rfl) ?_
  refine lv_ldc2 (v := (1085102592571150095 : Int64)) hx hb hown (hts _ mX0_someBelow_c87) dX0_someBelow_23 ?_
  refine lv_land hx hb dX0_someBelow_26 ?_
  refine lv_lload hx hb dX0_someBelow_27 (lv_at hl 0 rfl) ?_
  refine lv_ladd hx hb dX0_someBelow_29 ?_
  refine lv_topl (fun x7_3 ex7_3 => ?_)
  have hq := hq x7_3 ex7_3
  refine lv_lstore (lv' := [(7, .long x7_3), (5, .long x5_2), (3, .long x3_1), (0, .ref h), (1, .long p1)]) hx hb dX0_someBelow_30 hl (by decide) rfl (fun ls hl => ?_)
  refine lv_lload_n hx hb dX0_someBelow_32 rfl (lv_at hl 2 rfl) ?_
  refine lv_iconst (v := (4 : Int32)) hx hb dX0_someBelow_33 (by decide) ?_
  refine lv_lushr (v := (x3_1.toUInt64 >>> ((4 : Int32).toInt64.toUInt64 &&& Int64.toUInt64 63)).toInt64) hx hb dX0_someBelow_34 rfl ?_
  refine lv_ldc2 (v := (1085102592571150095 : Int64)) hx hb hown (hts _ mX0_someBelow_c87) dX0_someBelow_35 ?_
  refine lv_land hx hb dX0_someBelow_38 ?_
  refine lv_lload hx hb dX0_someBelow_39 (lv_at hl 1 rfl) ?_
  refine lv_ladd hx hb dX0_someBelow_41 ?_
  refine lv_topl (fun x9_4 ex9_4 => ?_)
  have hq := hq x9_4 ex9_4
  refine lv_lstore (lv' := [(9, .long x9_4), (7, .long x7_3), (5, .long x5_2), (3, .long x3_1), (0, .ref h), (1, .long p1)]) hx hb dX0_someBelow_42 hl (by decide) rfl (fun ls hl => ?_)
  refine lv_lload hx hb dX0_someBelow_44 (lv_at hl 1 rfl) ?_
  refine lv_lload hx hb dX0_someBelow_46 (lv_at hl 0 rfl) ?_
  refine lv_land hx hb dX0_someBelow_48 ?_
  refine lv_ldc2 (v := (-9187201950435737472 : Int64)) hx hb hown (hts _ mX0_someBelow_c89) dX0_someBelow_49 ?_
  refine lv_land hx hb dX0_someBelow_52 ?_
  refine lv_ldc2 (v := (-9187201950435737472 : Int64)) hx hb hown (hts _ mX0_someBelow_c89) dX0_someBelow_53 ?_
  refine W.lcmp hx hb dX0_someBelow_56 ?_
  refine lv_if_eq (tgt := 64) hx hb dX0_someBelow_57 (by decide) (fun hc => ?_) (fun hc => ?_)
  · have hq := hq.1 hc
    refine lv_iconst (v := (0 : Int32)) hx hb dX0_someBelow_64 (by decide) ?_
    exact w_zret (post := fun r (_ : Unit) => post r ) (wf := fun _ : Unit => wd0 cI cJ h ad I J R G) (u := ()) hx hb hr rfl hK hP hD hS hq dX0_someBelow_65 hlocks
  · have hq := hq.2 hc
    refine lv_iconst (v := (1 : Int32)) hx hb dX0_someBelow_60 (by decide) ?_
    refine lv_goto (tgt := 65) hx hb dX0_someBelow_61 (by decide) ?_
    exact w_zret (post := fun r (_ : Unit) => post r ) (wf := fun _ : Unit => wd0 cI cJ h ad I J R G) (u := ()) hx hb hr rfl hK hP hD hS hq dX0_someBelow_65 hlocks
def qX0_isLost (post : Int32 → Prop) (p1 : Int32) (p2 : Int64) (I : Nat → Int32) (J : Nat → Int64) (R : Nat → Nat → Int32) (G : Nat → Nat → Int64) : Prop := ∃ Pc_1 : Int32 → Prop, qX0_someAbove Pc_1 p2 I J R G ∧ (∀ (rc_1 : Int32), Pc_1 rc_1 → (((¬ rc_1 = 0) → (post (1 : Int32))) ∧ ((rc_1 = 0) → (vp_in p1 15 ∧ (∃ Pc_3 : Int32 → Prop, qX0_someBelow Pc_3 (p2 + (G 6 p1.toNatClampNeg)) I J R G ∧ (∀ (rc_3 : Int32), Pc_3 rc_3 → (((rc_3 = 0) → (post (0 : Int32))) ∧ ((¬ rc_3 = 0) → (post (1 : Int32))))))))))
theorem mX0_isLost_f22 : Cond.fieldLink RX0 22 "YearBook$Chooser" "shownFrom" "[J" ∈ wsX0_isLost := by decide +kernel
theorem nX0_isLost_X0 : ∀ w ∈ u_ws RX0 TX0 14, w ∈ wsX0_isLost := by decide +kernel
set_option maxHeartbeats 4000000 in
set_option maxRecDepth 100000 in
theorem tX0_isLost (l : Launch) (dC : Nat → ClassId) (dI : Nat → Nat → Nat) (cI : ClassId) (cJ : ClassId) (h : Nat) (ad : Nat → Nat)  (sz : Nat) (post : Int32 → Prop) (p1 : Int32) (p2 : Int64) (I : Nat → Int32) (J : Nat → Int64) (R : Nat → Nat → Int32) (G : Nat → Nat → Int64) (hq : qX0_isLost post p1 p2 I J R G) : Met l yX0_isLost wsX0_isLost ({ frames := 1, cells := 0, slots := 0, locals := 30 } : Room) (va_Pc [.ref h, .int p1, .long p2] (wPre (dC, dI) vwCl [(cI, .int), (cJ, .long)] (wd0 cI cJ h ad I J R G) sz)) (va_Qi (fun r (_ : Unit) => post r ) (wAt (dC, dI) vwCl [(cI, .int), (cJ, .long)] (va_A (wd0 cI cJ h ad I J R G) sz) (fun _ : Unit => wd0 cI cJ h ad I J R G)) (va_A (wd0 cI cJ h ad I J R G) sz)) 0 0 (va_A (wd0 cI cJ h ad I J R G) sz) := by
  unfold qX0_isLost at hq
  refine Met.ofW (cc := cX0_isLost) (maxL := 4) (ret := (some .boolean)) (by decide) rfl ?_
  intro p e s m args below meth c s₁ B hml hv
  obtain ⟨rfl, hsz, hP, hK, hD0⟩ := hv
  have hx := B.exec
  have hb := B.bytes
  have hr := B.returns
  have hts := atoms_spec (ws := wsX0_isLost) B.pre
  have hown : s.vm.findClass RX0 = some m.cls := findClass_of_methodNamed B.named
  have hlocks := B.notSynchronized
  subst hsz
  have hD := hD0.self (sz := s.heap.size)
  generalize hAe : va_A (wd0 cI cJ h ad I J R G) s.heap.size = A at hD ⊢
  have hA : ∀ q : Nat, s.heap.size ≤ q → A q := fun q h => by rw [← hAe]; exact Or.inr h
  have hS : va_S A s.heap s.heap [] := va_S.rf
  have hl := lv_entry ([.ref h, .int p1, .long p2]) (n := 4) (Nat.le_of_ble_eq_true rfl)
  rw [lg_entry_eq]
  generalize (lg_sl ([.ref h, .int p1, .long p2]) ++ List.replicate (4 - (lg_sl ([.ref h, .int p1, .long p2])).length) Slot.unset).toArray = ls at hl ⊢
  have hl : lv_has ls 4 [(0, .ref h), (1, .int p1), (2, .long p2)] := hl
  refine lv_aload_n hx hb dX0_isLost_0 rfl (lv_at hl 0 rfl) ?_
  refine lv_lload_n hx hb dX0_isLost_1 rfl (lv_at hl 2 rfl) ?_
  obtain ⟨Pc_1, hc, hq⟩ := hq
  refine w_calli (wf := fun _ : Unit => wd0 cI cJ h ad I J R G) (va_runV (As := [.long p2]) (rest := []) ⟨hx, hb, hml, hown, hts⟩ (tX0_someAbove l dC dI cI cJ h ad _ Pc_1 p2 I J R G hc) (cwV 1 hts gX0_isLost_X0_someAbove rfl rfl rfl (by decide +kernel) ⟨Nat.le_of_ble_eq_true rfl, Nat.le_of_ble_eq_true rfl⟩) (wPreV hK hP hD (ci := 0) (q0 := 0) rfl rfl) rfl rfl hl.1 rfl (lv_room (Nat.le_of_ble_eq_true rfl)) dX0_isLost_2 ⟨Nat.le_of_ble_eq_true rfl, Nat.le_of_ble_eq_true rfl⟩) hD hS hA (fun rc_1 u H locs hp hP hD hS => ?_)
  have hq := hq rc_1 hp
  have hP : va_P (dC, dI) vwCl (wd0 cI cJ h ad I J R G) H := hP
  have hD : va_D A (wd0 cI cJ h ad I J R G) := hD
  refine lv_if_ne (tgt := 23) hx hb dX0_isLost_5 (by decide) (fun hc => ?_) (fun hc => ?_)
  · have hq := hq.1 hc
    refine lv_iconst (v := (1 : Int32)) hx hb dX0_isLost_23 (by decide) ?_
    refine lv_goto (tgt := 28) hx hb dX0_isLost_24 (by decide) ?_
    exact w_zret (post := fun r (_ : Unit) => post r ) (wf := fun _ : Unit => wd0 cI cJ h ad I J R G) (u := ()) hx hb hr rfl hK hP hD hS hq dX0_isLost_28 hlocks
  · have hq := hq.2 hc
    refine lv_aload_n hx hb dX0_isLost_8 rfl (lv_at hl 0 rfl) ?_
    refine lv_lload_n hx hb dX0_isLost_9 rfl (lv_at hl 2 rfl) ?_
    refine lv_aload_n hx hb dX0_isLost_10 rfl (lv_at hl 0 rfl) ?_
    refine va_get (D := (dC, dI)) (ci := 0) (v := .ref (ad 6)) (C := RX0) (T := TX0) (N := 14) hx hb hts nX0_isLost_X0 hown hK hP 0 rfl rfl 6 (by decide) (hts _ mX0_isLost_f22) (fun _ h9 => h9) rfl dX0_isLost_11 ?_
    refine lv_iload_n hx hb dX0_isLost_14 rfl (lv_at hl 1 rfl) ?_
    obtain ⟨hi_2, hq⟩ := hq
    refine va_lald (f := G 6) hx hb hK hP 4 1 rfl rfl hi_2 dX0_isLost_15 ?_
    refine lv_ladd hx hb dX0_isLost_16 ?_
    obtain ⟨Pc_3, hc, hq⟩ := hq
    refine w_calli (wf := fun _ : Unit => wd0 cI cJ h ad I J R G) (va_runV (As := [.long (p2 + (G 6 p1.toNatClampNeg))]) (rest := []) ⟨hx, hb, hml, hown, hts⟩ (tX0_someBelow l dC dI cI cJ h ad _ Pc_3 (p2 + (G 6 p1.toNatClampNeg)) I J R G hc) (cwV 1 hts gX0_isLost_X0_someBelow rfl rfl rfl (by decide +kernel) ⟨Nat.le_of_ble_eq_true rfl, Nat.le_of_ble_eq_true rfl⟩) (wPreV hK hP hD (ci := 0) (q0 := 0) rfl rfl) rfl rfl hl.1 rfl (lv_room (Nat.le_of_ble_eq_true rfl)) dX0_isLost_17 ⟨Nat.le_of_ble_eq_true rfl, Nat.le_of_ble_eq_true rfl⟩) hD hS hA (fun rc_3 u H locs hp hP hD hS => ?_)
    have hq := hq rc_3 hp
    have hP : va_P (dC, dI) vwCl (wd0 cI cJ h ad I J R G) H := hP
    have hD : va_D A (wd0 cI cJ h ad I J R G) := hD
    refine lv_if_eq (tgt := 27) hx hb dX0_isLost_20 (by decide) (fun hc => ?_) (fun hc => ?_)
    · have hq := hq.1 hc
      refine lv_iconst (v := (0 : Int32)) hx hb dX0_isLost_27 (by decide) ?_
      exact w_zret (post := fun r (_ : Unit) => post r ) (wf := fun _ : Unit => wd0 cI cJ h ad I J R G) (u := ()) hx hb hr rfl hK hP hD hS hq dX0_isLost_28 hlocks
    · have hq := hq.2 hc
      refine lv_iconst (v := (1 : Int32)) hx hb dX0_isLost_23 (by decide) ?_
      refine lv_goto (tgt := 28) hx hb dX0_isLost_24 (by decide) ?_
      exact w_zret (post := fun r (_ : Unit) => post r ) (wf := fun _ : Unit => wd0 cI cJ h ad I J R G) (u := ()) hx hb hr rfl hK hP hD hS hq dX0_isLost_28 hlocks
def zX0_fittingFrom (Y : (Int32 → Prop) → Int32 → Int64 → (Nat → Int32) → (Nat → Int64) → (Nat → Nat → Int32) → (Nat → Nat → Int64) → Prop) (post : Int32 → Prop) (p1 : Int32) (p2 : Int64) (I : Nat → Int32) (J : Nat → Int64) (R : Nat → Nat → Int32) (G : Nat → Nat → Int64) (X51 : Prop) : Prop :=
  ((((p1 < (I 2)) → (∃ Pc_5 : Int32 → Prop, Y Pc_5 (p1 + (1 : Int32)) p2 I J R G ∧ (∀ (rc_5 : Int32), Pc_5 rc_5 → (vp_in p1 14 ∧ (∃ Pc_7 : Int32 → Prop, Y Pc_7 (p1 + (1 : Int32)) (p2 + (G 4 p1.toNatClampNeg)) I J R G ∧ (∀ (rc_7 : Int32), Pc_7 rc_7 → (post (rc_5 + rc_7)))))))) ∧ ((¬ p1 < (I 2)) → (post (0 : Int32)))) → X51 )
def qX0_fittingFrom_51 (Y : (Int32 → Prop) → Int32 → Int64 → (Nat → Int32) → (Nat → Int64) → (Nat → Nat → Int32) → (Nat → Nat → Int64) → Prop) (post : Int32 → Prop) (p1 : Int32) (p2 : Int64) (I : Nat → Int32) (J : Nat → Int64) (R : Nat → Nat → Int32) (G : Nat → Nat → Int64)  : Prop := ∀ (X51 : Prop), zX0_fittingFrom Y post p1 p2 I J R G X51 → X51 
theorem kX0_fittingFrom_51 {Y : (Int32 → Prop) → Int32 → Int64 → (Nat → Int32) → (Nat → Int64) → (Nat → Nat → Int32) → (Nat → Nat → Int64) → Prop} {post : Int32 → Prop} {p1 : Int32} {p2 : Int64} {I : Nat → Int32} {J : Nat → Int64} {R : Nat → Nat → Int32} {G : Nat → Nat → Int64}  (h : ((p1 < (I 2)) → (∃ Pc_5 : Int32 → Prop, Y Pc_5 (p1 + (1 : Int32)) p2 I J R G ∧ (∀ (rc_5 : Int32), Pc_5 rc_5 → (vp_in p1 14 ∧ (∃ Pc_7 : Int32 → Prop, Y Pc_7 (p1 + (1 : Int32)) (p2 + (G 4 p1.toNatClampNeg)) I J R G ∧ (∀ (rc_7 : Int32), Pc_7 rc_7 → (post (rc_5 + rc_7)))))))) ∧ ((¬ p1 < (I 2)) → (post (0 : Int32)))) : qX0_fittingFrom_51 Y post p1 p2 I J R G  := by
  intro Z51 hcl
  refine hcl  ?_
  refine ⟨fun c => ?_, fun c => ?_⟩
  · have h := h.1 c
    obtain ⟨P, h1, h2⟩ := h
    refine ⟨P, h1, fun b0 hp => ?_⟩
    have h := h2 b0 hp
    refine ⟨h.1, ?_⟩
    have h := h.2
    obtain ⟨P, h1, h2⟩ := h
    refine ⟨P, h1, fun b0 hp => ?_⟩
    have h := h2 b0 hp
    exact h
  · have h := h.2 c
    exact h
def qX0_fittingFrom : Nat → (Int32 → Prop) → Int32 → Int64 → (Nat → Int32) → (Nat → Int64) → (Nat → Nat → Int32) → (Nat → Nat → Int64) → Prop
  | 0, _, _, _, _, _, _, _ => False
  | d + 1, post, p1, p2, I, J, R, G => (((I 2) < p1) → (post (0 : Int32))) ∧ ((¬ (I 2) < p1) → (∃ Pc_1 : Int32 → Prop, qX0_isLost Pc_1 p1 p2 I J R G ∧ (∀ (rc_1 : Int32), Pc_1 rc_1 → (((rc_1 = 0) → (∃ Pc_2 : Int32 → Prop, qX0_someBelow Pc_2 p2 I J R G ∧ (∀ (rc_2 : Int32), Pc_2 rc_2 → (((¬ rc_2 = 0) → (qX0_fittingFrom_51 (qX0_fittingFrom d) post p1 p2 I J R G )) ∧ ((rc_2 = 0) → (vp_in p1 15 ∧ (∃ Pc_4 : Int32 → Prop, qX0_someAbove Pc_4 (p2 + (G 6 p1.toNatClampNeg)) I J R G ∧ (∀ (rc_4 : Int32), Pc_4 rc_4 → (((¬ rc_4 = 0) → (qX0_fittingFrom_51 (qX0_fittingFrom d) post p1 p2 I J R G )) ∧ ((rc_4 = 0) → (post ((1 : Int32) <<< (((I 2) - p1) &&& 31))))))))))))) ∧ ((¬ rc_1 = 0) → (post (0 : Int32)))))))
theorem mX0_fittingFrom_f41 : Cond.fieldLink RX0 41 "YearBook$Chooser" "size" "I" ∈ wsX0_fittingFrom := by decide +kernel
theorem nX0_fittingFrom_X0 : ∀ w ∈ u_ws RX0 TX0 14, w ∈ wsX0_fittingFrom := by decide +kernel
theorem mX0_fittingFrom_f22 : Cond.fieldLink RX0 22 "YearBook$Chooser" "shownFrom" "[J" ∈ wsX0_fittingFrom := by decide +kernel
theorem mX0_fittingFrom_f15 : Cond.fieldLink RX0 15 "YearBook$Chooser" "shown" "[J" ∈ wsX0_fittingFrom := by decide +kernel
set_option maxHeartbeats 4000000 in
set_option maxRecDepth 100000 in
theorem tX0_fittingFrom (l : Launch) (dC : Nat → ClassId) (dI : Nat → Nat → Nat) (cI : ClassId) (cJ : ClassId) (h : Nat) (ad : Nat → Nat) : ∀ (d : Nat) (sz : Nat) (post : Int32 → Prop) (p1 : Int32) (p2 : Int64) (I : Nat → Int32) (J : Nat → Int64) (R : Nat → Nat → Int32) (G : Nat → Nat → Int64) (hq : qX0_fittingFrom d post p1 p2 I J R G), Met l yX0_fittingFrom wsX0_fittingFrom ({ frames := 2 + d, cells := 0, slots := 0, locals := 53 + d * 23 } : Room) (va_Pc [.ref h, .int p1, .long p2] (wPre (dC, dI) vwCl [(cI, .int), (cJ, .long)] (wd0 cI cJ h ad I J R G) sz)) (va_Qi (fun r (_ : Unit) => post r ) (wAt (dC, dI) vwCl [(cI, .int), (cJ, .long)] (va_A (wd0 cI cJ h ad I J R G) sz) (fun _ : Unit => wd0 cI cJ h ad I J R G)) (va_A (wd0 cI cJ h ad I J R G) sz)) 0 0 (va_A (wd0 cI cJ h ad I J R G) sz) := by
  intro d
  induction d with
  | zero => intro sz post p1 p2 I J R G hq; exact False.elim hq
  | succ d ih =>
    intro sz post p1 p2 I J R G hq
    unfold qX0_fittingFrom at hq
    refine Met.ofW (cc := cX0_fittingFrom) (maxL := 4) (ret := (some .int)) (by decide) rfl ?_
    intro p e s m args below meth c s₁ B hml hv
    obtain ⟨rfl, hsz, hP, hK, hD0⟩ := hv
    have hx := B.exec
    have hb := B.bytes
    have hr := B.returns
    have hts := atoms_spec (ws := wsX0_fittingFrom) B.pre
    have hown : s.vm.findClass RX0 = some m.cls := findClass_of_methodNamed B.named
    have hlocks := B.notSynchronized
    subst hsz
    have hD := hD0.self (sz := s.heap.size)
    generalize hAe : va_A (wd0 cI cJ h ad I J R G) s.heap.size = A at hD ⊢
    have hA : ∀ q : Nat, s.heap.size ≤ q → A q := fun q h => by rw [← hAe]; exact Or.inr h
    have hS : va_S A s.heap s.heap [] := va_S.rf
    have hZ : zX0_fittingFrom (qX0_fittingFrom d) post p1 p2 I J R G
        (∀ (H : Heap) (locs : List Loc) (ls : Array Slot), va_P (dC, dI) vwCl (wd0 cI cJ h ad I J R G) H → va_D A (wd0 cI cJ h ad I J R G) → va_S A s.heap H locs → lv_has ls 4 [(0, .ref h), (1, .int p1), (2, .long p2)] → W p l e (headSpec wsX0_fittingFrom ({ frames := 2 + (d + 1), cells := 0, slots := 0, locals := 53 + (d + 1) * 23 } : Room)).room s m ([.ref h, .int p1, .long p2] : List Value).toArray below meth c H locs 0 0 (MQ below (va_Qi (fun r (_ : Unit) => post r ) (wAt (dC, dI) vwCl [(cI, .int), (cJ, .long)] A (fun _ : Unit => wd0 cI cJ h ad I J R G)) A) ([.ref h, .int p1, .long p2] : List Value).toArray s 0 0 A) (F0 m 51 ls [])) := by
      unfold zX0_fittingFrom
      intro  hq H locs ls hP hD hS hl
      refine lv_iload_n hx hb dX0_fittingFrom_51 rfl (lv_at hl 1 rfl) ?_
      refine lv_aload_n hx hb dX0_fittingFrom_52 rfl (lv_at hl 0 rfl) ?_
      refine va_get (D := (dC, dI)) (ci := 0) (v := .int (I 2)) (C := RX0) (T := TX0) (N := 14) hx hb hts nX0_fittingFrom_X0 hown hK hP 0 rfl rfl 2 (by decide) (hts _ mX0_fittingFrom_f41) (fun _ h9 => h9) rfl dX0_fittingFrom_53 ?_
      refine lv_icmp_lt (tgt := 63) hx hb dX0_fittingFrom_56 (by decide) (fun hc => ?_) (fun hc => ?_)
      · have hq := hq.1 hc
        refine lv_aload_n hx hb dX0_fittingFrom_63 rfl (lv_at hl 0 rfl) ?_
        refine lv_iload_n hx hb dX0_fittingFrom_64 rfl (lv_at hl 1 rfl) ?_
        refine lv_iconst (v := (1 : Int32)) hx hb dX0_fittingFrom_65 (by decide) ?_
        refine lv_iadd hx hb dX0_fittingFrom_66 ?_
        refine lv_lload_n hx hb dX0_fittingFrom_67 rfl (lv_at hl 2 rfl) ?_
        obtain ⟨Pc_5, hc, hq⟩ := hq
        refine w_calli (wf := fun _ : Unit => wd0 cI cJ h ad I J R G) (va_runV (As := [.int (p1 + (1 : Int32)), .long p2]) (rest := []) ⟨hx, hb, hml, hown, hts⟩ (ih _ Pc_5 (p1 + (1 : Int32)) p2 I J R G hc) (cwV 2 hts gX0_fittingFrom_X0_fittingFrom rfl rfl rfl (by decide +kernel) ⟨by show 2 + d + 1 ≤ 2 + (d + 1); omega, by show 8 + (4 + 11) + (53 + d * 23) ≤ 53 + (d + 1) * 23; omega⟩) (wPreV hK hP hD (ci := 0) (q0 := 0) rfl rfl) rfl rfl hl.1 rfl (lv_room (Nat.le_of_ble_eq_true rfl)) dX0_fittingFrom_68 ⟨Nat.le_of_ble_eq_true rfl, Nat.le_of_ble_eq_true rfl⟩) hD hS hA (fun rc_5 u H locs hp hP hD hS => ?_)
        have hq := hq rc_5 hp
        have hP : va_P (dC, dI) vwCl (wd0 cI cJ h ad I J R G) H := hP
        have hD : va_D A (wd0 cI cJ h ad I J R G) := hD
        refine lv_aload_n hx hb dX0_fittingFrom_71 rfl (lv_at hl 0 rfl) ?_
        refine lv_iload_n hx hb dX0_fittingFrom_72 rfl (lv_at hl 1 rfl) ?_
        refine lv_iconst (v := (1 : Int32)) hx hb dX0_fittingFrom_73 (by decide) ?_
        refine lv_iadd hx hb dX0_fittingFrom_74 ?_
        refine lv_lload_n hx hb dX0_fittingFrom_75 rfl (lv_at hl 2 rfl) ?_
        refine lv_aload_n hx hb dX0_fittingFrom_76 rfl (lv_at hl 0 rfl) ?_
        refine va_get (D := (dC, dI)) (ci := 0) (v := .ref (ad 4)) (C := RX0) (T := TX0) (N := 14) hx hb hts nX0_fittingFrom_X0 hown hK hP 0 rfl rfl 4 (by decide) (hts _ mX0_fittingFrom_f15) (fun _ h9 => h9) rfl dX0_fittingFrom_77 ?_
        refine lv_iload_n hx hb dX0_fittingFrom_80 rfl (lv_at hl 1 rfl) ?_
        obtain ⟨hi_6, hq⟩ := hq
        refine va_lald (f := G 4) hx hb hK hP 2 1 rfl rfl hi_6 dX0_fittingFrom_81 ?_
        refine lv_ladd hx hb dX0_fittingFrom_82 ?_
        obtain ⟨Pc_7, hc, hq⟩ := hq
        refine w_calli (wf := fun _ : Unit => wd0 cI cJ h ad I J R G) (va_runV (As := [.int (p1 + (1 : Int32)), .long (p2 + (G 4 p1.toNatClampNeg))]) (rest := [.int rc_5]) ⟨hx, hb, hml, hown, hts⟩ (ih _ Pc_7 (p1 + (1 : Int32)) (p2 + (G 4 p1.toNatClampNeg)) I J R G hc) (cwV 2 hts gX0_fittingFrom_X0_fittingFrom rfl rfl rfl (by decide +kernel) ⟨by show 2 + d + 1 ≤ 2 + (d + 1); omega, by show 8 + (4 + 11) + (53 + d * 23) ≤ 53 + (d + 1) * 23; omega⟩) (wPreV hK hP hD (ci := 0) (q0 := 0) rfl rfl) rfl rfl hl.1 rfl (lv_room (Nat.le_of_ble_eq_true rfl)) dX0_fittingFrom_83 ⟨Nat.le_of_ble_eq_true rfl, Nat.le_of_ble_eq_true rfl⟩) hD hS hA (fun rc_7 u H locs hp hP hD hS => ?_)
        have hq := hq rc_7 hp
        have hP : va_P (dC, dI) vwCl (wd0 cI cJ h ad I J R G) H := hP
        have hD : va_D A (wd0 cI cJ h ad I J R G) := hD
        refine lv_iadd hx hb dX0_fittingFrom_86 ?_
        exact w_iret (post := fun r (_ : Unit) => post r ) (wf := fun _ : Unit => wd0 cI cJ h ad I J R G) (u := ()) hx hb hr hK hP hD hS hq dX0_fittingFrom_87 hlocks
      · have hq := hq.2 hc
        refine lv_iconst (v := (0 : Int32)) hx hb dX0_fittingFrom_59 (by decide) ?_
        refine lv_goto (tgt := 87) hx hb dX0_fittingFrom_60 (by decide) ?_
        exact w_iret (post := fun r (_ : Unit) => post r ) (wf := fun _ : Unit => wd0 cI cJ h ad I J R G) (u := ()) hx hb hr hK hP hD hS hq dX0_fittingFrom_87 hlocks
    have hl := lv_entry ([.ref h, .int p1, .long p2]) (n := 4) (Nat.le_of_ble_eq_true rfl)
    rw [lg_entry_eq]
    generalize (lg_sl ([.ref h, .int p1, .long p2]) ++ List.replicate (4 - (lg_sl ([.ref h, .int p1, .long p2])).length) Slot.unset).toArray = ls at hl ⊢
    have hl : lv_has ls 4 [(0, .ref h), (1, .int p1), (2, .long p2)] := hl
    refine lv_iload_n hx hb dX0_fittingFrom_0 rfl (lv_at hl 1 rfl) ?_
    refine lv_aload_n hx hb dX0_fittingFrom_1 rfl (lv_at hl 0 rfl) ?_
    refine va_get (D := (dC, dI)) (ci := 0) (v := .int (I 2)) (C := RX0) (T := TX0) (N := 14) hx hb hts nX0_fittingFrom_X0 hown hK hP 0 rfl rfl 2 (by decide) (hts _ mX0_fittingFrom_f41) (fun _ h9 => h9) rfl dX0_fittingFrom_2 ?_
    refine lv_icmp_gt (tgt := 17) hx hb dX0_fittingFrom_5 (by decide) (fun hc => ?_) (fun hc => ?_)
    · have hq := hq.1 hc
      refine lv_iconst (v := (0 : Int32)) hx hb dX0_fittingFrom_17 (by decide) ?_
      exact w_iret (post := fun r (_ : Unit) => post r ) (wf := fun _ : Unit => wd0 cI cJ h ad I J R G) (u := ()) hx hb hr hK hP hD hS hq dX0_fittingFrom_18 hlocks
    · have hq := hq.2 hc
      refine lv_aload_n hx hb dX0_fittingFrom_8 rfl (lv_at hl 0 rfl) ?_
      refine lv_iload_n hx hb dX0_fittingFrom_9 rfl (lv_at hl 1 rfl) ?_
      refine lv_lload_n hx hb dX0_fittingFrom_10 rfl (lv_at hl 2 rfl) ?_
      obtain ⟨Pc_1, hc, hq⟩ := hq
      refine w_calli (wf := fun _ : Unit => wd0 cI cJ h ad I J R G) (va_runV (As := [.int p1, .long p2]) (rest := []) ⟨hx, hb, hml, hown, hts⟩ (tX0_isLost l dC dI cI cJ h ad _ Pc_1 p1 p2 I J R G hc) (cwV 2 hts gX0_fittingFrom_X0_isLost rfl rfl rfl (by decide +kernel) ⟨by show 1 + 1 ≤ 2 + (d + 1); omega, by show 8 + (4 + 11) + 30 ≤ 53 + (d + 1) * 23; omega⟩) (wPreV hK hP hD (ci := 0) (q0 := 0) rfl rfl) rfl rfl hl.1 rfl (lv_room (Nat.le_of_ble_eq_true rfl)) dX0_fittingFrom_11 ⟨Nat.le_of_ble_eq_true rfl, Nat.le_of_ble_eq_true rfl⟩) hD hS hA (fun rc_1 u H locs hp hP hD hS => ?_)
      have hq := hq rc_1 hp
      have hP : va_P (dC, dI) vwCl (wd0 cI cJ h ad I J R G) H := hP
      have hD : va_D A (wd0 cI cJ h ad I J R G) := hD
      refine lv_if_eq (tgt := 19) hx hb dX0_fittingFrom_14 (by decide) (fun hc => ?_) (fun hc => ?_)
      · have hq := hq.1 hc
        refine lv_aload_n hx hb dX0_fittingFrom_19 rfl (lv_at hl 0 rfl) ?_
        refine lv_lload_n hx hb dX0_fittingFrom_20 rfl (lv_at hl 2 rfl) ?_
        obtain ⟨Pc_2, hc, hq⟩ := hq
        refine w_calli (wf := fun _ : Unit => wd0 cI cJ h ad I J R G) (va_runV (As := [.long p2]) (rest := []) ⟨hx, hb, hml, hown, hts⟩ (tX0_someBelow l dC dI cI cJ h ad _ Pc_2 p2 I J R G hc) (cwV 1 hts gX0_fittingFrom_X0_someBelow rfl rfl rfl (by decide +kernel) ⟨by show 0 + 1 ≤ 2 + (d + 1); omega, by show 8 + (11 + 11) + 0 ≤ 53 + (d + 1) * 23; omega⟩) (wPreV hK hP hD (ci := 0) (q0 := 0) rfl rfl) rfl rfl hl.1 rfl (lv_room (Nat.le_of_ble_eq_true rfl)) dX0_fittingFrom_21 ⟨Nat.le_of_ble_eq_true rfl, Nat.le_of_ble_eq_true rfl⟩) hD hS hA (fun rc_2 u H locs hp hP hD hS => ?_)
        have hq := hq rc_2 hp
        have hP : va_P (dC, dI) vwCl (wd0 cI cJ h ad I J R G) H := hP
        have hD : va_D A (wd0 cI cJ h ad I J R G) := hD
        refine lv_if_ne (tgt := 51) hx hb dX0_fittingFrom_24 (by decide) (fun hc => ?_) (fun hc => ?_)
        · have hq := hq.1 hc
          exact hq _ hZ _ _ ls hP hD hS (lv_sub hl [0, 1, 2] rfl)
        · have hq := hq.2 hc
          refine lv_aload_n hx hb dX0_fittingFrom_27 rfl (lv_at hl 0 rfl) ?_
          refine lv_lload_n hx hb dX0_fittingFrom_28 rfl (lv_at hl 2 rfl) ?_
          refine lv_aload_n hx hb dX0_fittingFrom_29 rfl (lv_at hl 0 rfl) ?_
          refine va_get (D := (dC, dI)) (ci := 0) (v := .ref (ad 6)) (C := RX0) (T := TX0) (N := 14) hx hb hts nX0_fittingFrom_X0 hown hK hP 0 rfl rfl 6 (by decide) (hts _ mX0_fittingFrom_f22) (fun _ h9 => h9) rfl dX0_fittingFrom_30 ?_
          refine lv_iload_n hx hb dX0_fittingFrom_33 rfl (lv_at hl 1 rfl) ?_
          obtain ⟨hi_3, hq⟩ := hq
          refine va_lald (f := G 6) hx hb hK hP 4 1 rfl rfl hi_3 dX0_fittingFrom_34 ?_
          refine lv_ladd hx hb dX0_fittingFrom_35 ?_
          obtain ⟨Pc_4, hc, hq⟩ := hq
          refine w_calli (wf := fun _ : Unit => wd0 cI cJ h ad I J R G) (va_runV (As := [.long (p2 + (G 6 p1.toNatClampNeg))]) (rest := []) ⟨hx, hb, hml, hown, hts⟩ (tX0_someAbove l dC dI cI cJ h ad _ Pc_4 (p2 + (G 6 p1.toNatClampNeg)) I J R G hc) (cwV 1 hts gX0_fittingFrom_X0_someAbove rfl rfl rfl (by decide +kernel) ⟨by show 0 + 1 ≤ 2 + (d + 1); omega, by show 8 + (9 + 11) + 0 ≤ 53 + (d + 1) * 23; omega⟩) (wPreV hK hP hD (ci := 0) (q0 := 0) rfl rfl) rfl rfl hl.1 rfl (lv_room (Nat.le_of_ble_eq_true rfl)) dX0_fittingFrom_36 ⟨Nat.le_of_ble_eq_true rfl, Nat.le_of_ble_eq_true rfl⟩) hD hS hA (fun rc_4 u H locs hp hP hD hS => ?_)
          have hq := hq rc_4 hp
          have hP : va_P (dC, dI) vwCl (wd0 cI cJ h ad I J R G) H := hP
          have hD : va_D A (wd0 cI cJ h ad I J R G) := hD
          refine lv_if_ne (tgt := 51) hx hb dX0_fittingFrom_39 (by decide) (fun hc => ?_) (fun hc => ?_)
          · have hq := hq.1 hc
            exact hq _ hZ _ _ ls hP hD hS (lv_sub hl [0, 1, 2] rfl)
          · have hq := hq.2 hc
            refine lv_iconst (v := (1 : Int32)) hx hb dX0_fittingFrom_42 (by decide) ?_
            refine lv_aload_n hx hb dX0_fittingFrom_43 rfl (lv_at hl 0 rfl) ?_
            refine va_get (D := (dC, dI)) (ci := 0) (v := .int (I 2)) (C := RX0) (T := TX0) (N := 14) hx hb hts nX0_fittingFrom_X0 hown hK hP 0 rfl rfl 2 (by decide) (hts _ mX0_fittingFrom_f41) (fun _ h9 => h9) rfl dX0_fittingFrom_44 ?_
            refine lv_iload_n hx hb dX0_fittingFrom_47 rfl (lv_at hl 1 rfl) ?_
            refine lv_isub hx hb dX0_fittingFrom_48 ?_
            refine lv_ishl hx hb dX0_fittingFrom_49 ?_
            exact w_iret (post := fun r (_ : Unit) => post r ) (wf := fun _ : Unit => wd0 cI cJ h ad I J R G) (u := ()) hx hb hr hK hP hD hS hq dX0_fittingFrom_50 hlocks
      · have hq := hq.2 hc
        refine lv_iconst (v := (0 : Int32)) hx hb dX0_fittingFrom_17 (by decide) ?_
        exact w_iret (post := fun r (_ : Unit) => post r ) (wf := fun _ : Unit => wd0 cI cJ h ad I J R G) (u := ()) hx hb hr hK hP hD hS hq dX0_fittingFrom_18 hlocks
def qX0_countFitting (post : Int32 → Prop) (I : Nat → Int32) (J : Nat → Int64) (R : Nat → Nat → Int32) (G : Nat → Nat → Int64) : Prop := ∃ Pc_1 : Int32 → Prop, qX0_fittingFrom 20 Pc_1 (0 : Int32) (0 : Int64) I J R G ∧ (∀ (rc_1 : Int32), Pc_1 rc_1 → (post rc_1))
set_option maxHeartbeats 4000000 in
set_option maxRecDepth 100000 in
theorem tX0_countFitting (l : Launch) (dC : Nat → ClassId) (dI : Nat → Nat → Nat) (cI : ClassId) (cJ : ClassId) (h : Nat) (ad : Nat → Nat)  (sz : Nat) (post : Int32 → Prop) (I : Nat → Int32) (J : Nat → Int64) (R : Nat → Nat → Int32) (G : Nat → Nat → Int64) (hq : qX0_countFitting post I J R G) : Met l yX0_countFitting wsX0_countFitting ({ frames := 23, cells := 0, slots := 0, locals := 536 } : Room) (va_Pc [.ref h] (wPre (dC, dI) vwCl [(cI, .int), (cJ, .long)] (wd0 cI cJ h ad I J R G) sz)) (va_Qi (fun r (_ : Unit) => post r ) (wAt (dC, dI) vwCl [(cI, .int), (cJ, .long)] (va_A (wd0 cI cJ h ad I J R G) sz) (fun _ : Unit => wd0 cI cJ h ad I J R G)) (va_A (wd0 cI cJ h ad I J R G) sz)) 0 0 (va_A (wd0 cI cJ h ad I J R G) sz) := by
  unfold qX0_countFitting at hq
  refine Met.ofW (cc := cX0_countFitting) (maxL := 1) (ret := (some .int)) (by decide) rfl ?_
  intro p e s m args below meth c s₁ B hml hv
  obtain ⟨rfl, hsz, hP, hK, hD0⟩ := hv
  have hx := B.exec
  have hb := B.bytes
  have hr := B.returns
  have hts := atoms_spec (ws := wsX0_countFitting) B.pre
  have hown : s.vm.findClass RX0 = some m.cls := findClass_of_methodNamed B.named
  have hlocks := B.notSynchronized
  subst hsz
  have hD := hD0.self (sz := s.heap.size)
  generalize hAe : va_A (wd0 cI cJ h ad I J R G) s.heap.size = A at hD ⊢
  have hA : ∀ q : Nat, s.heap.size ≤ q → A q := fun q h => by rw [← hAe]; exact Or.inr h
  have hS : va_S A s.heap s.heap [] := va_S.rf
  have hl := lv_entry ([.ref h]) (n := 1) (Nat.le_of_ble_eq_true rfl)
  rw [lg_entry_eq]
  generalize (lg_sl ([.ref h]) ++ List.replicate (1 - (lg_sl ([.ref h])).length) Slot.unset).toArray = ls at hl ⊢
  have hl : lv_has ls 1 [(0, .ref h)] := hl
  refine lv_aload_n hx hb dX0_countFitting_0 rfl (lv_at hl 0 rfl) ?_
  refine lv_iconst (v := (0 : Int32)) hx hb dX0_countFitting_1 (by decide) ?_
  refine lv_lconst (v := (0 : Int64)) hx hb dX0_countFitting_2 (by decide) ?_
  obtain ⟨Pc_1, hc, hq⟩ := hq
  refine w_calli (wf := fun _ : Unit => wd0 cI cJ h ad I J R G) (va_runV (As := [.int (0 : Int32), .long (0 : Int64)]) (rest := []) ⟨hx, hb, hml, hown, hts⟩ (tX0_fittingFrom l dC dI cI cJ h ad 20 _ Pc_1 (0 : Int32) (0 : Int64) I J R G hc) (cwV 2 hts gX0_countFitting_X0_fittingFrom rfl rfl rfl (by decide +kernel) ⟨Nat.le_of_ble_eq_true rfl, Nat.le_of_ble_eq_true rfl⟩) (wPreV hK hP hD (ci := 0) (q0 := 0) rfl rfl) rfl rfl hl.1 rfl (lv_room (Nat.le_of_ble_eq_true rfl)) dX0_countFitting_3 ⟨Nat.le_of_ble_eq_true rfl, Nat.le_of_ble_eq_true rfl⟩) hD hS hA (fun rc_1 u H locs hp hP hD hS => ?_)
  have hq := hq rc_1 hp
  have hP : va_P (dC, dI) vwCl (wd0 cI cJ h ad I J R G) H := hP
  have hD : va_D A (wd0 cI cJ h ad I J R G) := hD
  exact w_iret (post := fun r (_ : Unit) => post r ) (wf := fun _ : Unit => wd0 cI cJ h ad I J R G) (u := ()) hx hb hr hK hP hD hS hq dX0_countFitting_6 hlocks
def zX0_searchFrom (Y : ((Nat → Int32) → (Nat → Int64) → (Nat → Nat → Int32) → (Nat → Nat → Int64) → Prop) → Int32 → Int32 → Int64 → Int64 → (Nat → Int32) → (Nat → Int64) → (Nat → Nat → Int32) → (Nat → Nat → Int64) → Prop) (post : (Nat → Int32) → (Nat → Int64) → (Nat → Nat → Int32) → (Nat → Nat → Int64) → Prop) (p1 : Int32) (p2 : Int32) (p3 : Int64) (p4 : Int64) (X32 : (Nat → Int32) → (Nat → Int64) → (Nat → Nat → Int32) → (Nat → Nat → Int64) → Prop) (X101 : (Nat → Int32) → (Nat → Int64) → (Nat → Nat → Int32) → (Nat → Nat → Int64) → Prop) (X126 : Int32 → (Nat → Int32) → (Nat → Int64) → (Nat → Nat → Int32) → (Nat → Nat → Int64) → Prop) (X144 : Int32 → (Nat → Int32) → (Nat → Int64) → (Nat → Nat → Int32) → (Nat → Nat → Int64) → Prop) : Prop :=
  (∀ (I : Nat → Int32) (J : Nat → Int64) (R : Nat → Nat → Int32) (G : Nat → Nat → Int64), (∃ Pc_2 : Int32 → Prop, qX0_isLost Pc_2 p1 p3 I J R G ∧ (∀ (rc_2 : Int32), Pc_2 rc_2 → (((rc_2 = 0) → (vp_in p1 15 ∧ (∀ x7_4 : Int64, x7_4 = p3 + (G 7 p1.toNatClampNeg) → (∃ Pc_5 : Int32 → Prop, qX0_someAbove Pc_5 x7_4 I J R G ∧ (∀ (rc_5 : Int32), Pc_5 rc_5 → (((¬ rc_5 = 0) → (X101 I J R G)) ∧ ((rc_5 = 0) → (∃ Pc_6 : Int32 → Prop, qX0_someBelow Pc_6 x7_4 I J R G ∧ (∀ (rc_6 : Int32), Pc_6 rc_6 → (((¬ rc_6 = 0) → (X101 I J R G)) ∧ ((rc_6 = 0) → (post (va_up (va_up I 11 (1 : Int32)) 12 (p2 ||| (R 8 p1.toNatClampNeg))) (va_up J 13 (p4 + (G 9 p1.toNatClampNeg))) R G)))))))))))) ∧ ((¬ rc_2 = 0) → (post I J R G))))) → X32 I J R G) ∧
  (∀ (I : Nat → Int32) (J : Nat → Int64) (R : Nat → Nat → Int32) (G : Nat → Nat → Int64), (((p1 < (I 2)) → (vp_in p1 14 ∧ ((((lg_cmp (G 5 p1.toNatClampNeg) (0 : Int64)) ≤ 0) → (X126 (0 : Int32) I J R G)) ∧ ((¬ (lg_cmp (G 5 p1.toNatClampNeg) (0 : Int64)) ≤ 0) → (X126 (1 : Int32) I J R G))))) ∧ ((¬ p1 < (I 2)) → (post I J R G))) → X101 I J R G) ∧
  (∀ (k0 : Int32) (I : Nat → Int32) (J : Nat → Int64) (R : Nat → Nat → Int32) (G : Nat → Nat → Int64), (((¬ k0 = 0) → (X144 k0 I J R G)) ∧ ((k0 = 0) → (∃ Pc_8 : (Nat → Int32) → (Nat → Int64) → (Nat → Nat → Int32) → (Nat → Nat → Int64) → Prop, Y Pc_8 (p1 + (1 : Int32)) p2 p3 p4 I J R G ∧ (∀ (Ic_8 : Nat → Int32) (Jc_8 : Nat → Int64) (Rc_8 : Nat → Nat → Int32) (Gc_8 : Nat → Nat → Int64), Pc_8 Ic_8 Jc_8 Rc_8 Gc_8 → (X144 k0 Ic_8 Jc_8 Rc_8 Gc_8))))) → X126 k0 I J R G) ∧
  (∀ (x9 : Int32) (I : Nat → Int32) (J : Nat → Int64) (R : Nat → Nat → Int32) (G : Nat → Nat → Int64), (vp_in p1 14 ∧ (∃ Pc_10 : (Nat → Int32) → (Nat → Int64) → (Nat → Nat → Int32) → (Nat → Nat → Int64) → Prop, Y Pc_10 (p1 + (1 : Int32)) (p2 ||| (R 3 p1.toNatClampNeg)) (p3 + (G 4 p1.toNatClampNeg)) (p4 + (G 5 p1.toNatClampNeg)) I J R G ∧ (∀ (Ic_10 : Nat → Int32) (Jc_10 : Nat → Int64) (Rc_10 : Nat → Nat → Int32) (Gc_10 : Nat → Nat → Int64), Pc_10 Ic_10 Jc_10 Rc_10 Gc_10 → (((x9 = 0) → (post Ic_10 Jc_10 Rc_10 Gc_10)) ∧ ((¬ x9 = 0) → (∃ Pc_11 : (Nat → Int32) → (Nat → Int64) → (Nat → Nat → Int32) → (Nat → Nat → Int64) → Prop, Y Pc_11 (p1 + (1 : Int32)) p2 p3 p4 Ic_10 Jc_10 Rc_10 Gc_10 ∧ (∀ (Ic_11 : Nat → Int32) (Jc_11 : Nat → Int64) (Rc_11 : Nat → Nat → Int32) (Gc_11 : Nat → Nat → Int64), Pc_11 Ic_11 Jc_11 Rc_11 Gc_11 → (post Ic_11 Jc_11 Rc_11 Gc_11)))))))) → X144 x9 I J R G)
def qX0_searchFrom_32 (Y : ((Nat → Int32) → (Nat → Int64) → (Nat → Nat → Int32) → (Nat → Nat → Int64) → Prop) → Int32 → Int32 → Int64 → Int64 → (Nat → Int32) → (Nat → Int64) → (Nat → Nat → Int32) → (Nat → Nat → Int64) → Prop) (post : (Nat → Int32) → (Nat → Int64) → (Nat → Nat → Int32) → (Nat → Nat → Int64) → Prop) (p1 : Int32) (p2 : Int32) (p3 : Int64) (p4 : Int64) (I : Nat → Int32) (J : Nat → Int64) (R : Nat → Nat → Int32) (G : Nat → Nat → Int64) : Prop := ∀ (X32 : (Nat → Int32) → (Nat → Int64) → (Nat → Nat → Int32) → (Nat → Nat → Int64) → Prop) (X101 : (Nat → Int32) → (Nat → Int64) → (Nat → Nat → Int32) → (Nat → Nat → Int64) → Prop) (X126 : Int32 → (Nat → Int32) → (Nat → Int64) → (Nat → Nat → Int32) → (Nat → Nat → Int64) → Prop) (X144 : Int32 → (Nat → Int32) → (Nat → Int64) → (Nat → Nat → Int32) → (Nat → Nat → Int64) → Prop), zX0_searchFrom Y post p1 p2 p3 p4 X32 X101 X126 X144 → X32 I J R G
def qX0_searchFrom_101 (Y : ((Nat → Int32) → (Nat → Int64) → (Nat → Nat → Int32) → (Nat → Nat → Int64) → Prop) → Int32 → Int32 → Int64 → Int64 → (Nat → Int32) → (Nat → Int64) → (Nat → Nat → Int32) → (Nat → Nat → Int64) → Prop) (post : (Nat → Int32) → (Nat → Int64) → (Nat → Nat → Int32) → (Nat → Nat → Int64) → Prop) (p1 : Int32) (p2 : Int32) (p3 : Int64) (p4 : Int64) (I : Nat → Int32) (J : Nat → Int64) (R : Nat → Nat → Int32) (G : Nat → Nat → Int64) : Prop := ∀ (X32 : (Nat → Int32) → (Nat → Int64) → (Nat → Nat → Int32) → (Nat → Nat → Int64) → Prop) (X101 : (Nat → Int32) → (Nat → Int64) → (Nat → Nat → Int32) → (Nat → Nat → Int64) → Prop) (X126 : Int32 → (Nat → Int32) → (Nat → Int64) → (Nat → Nat → Int32) → (Nat → Nat → Int64) → Prop) (X144 : Int32 → (Nat → Int32) → (Nat → Int64) → (Nat → Nat → Int32) → (Nat → Nat → Int64) → Prop), zX0_searchFrom Y post p1 p2 p3 p4 X32 X101 X126 X144 → X101 I J R G
def qX0_searchFrom_126 (Y : ((Nat → Int32) → (Nat → Int64) → (Nat → Nat → Int32) → (Nat → Nat → Int64) → Prop) → Int32 → Int32 → Int64 → Int64 → (Nat → Int32) → (Nat → Int64) → (Nat → Nat → Int32) → (Nat → Nat → Int64) → Prop) (post : (Nat → Int32) → (Nat → Int64) → (Nat → Nat → Int32) → (Nat → Nat → Int64) → Prop) (p1 : Int32) (p2 : Int32) (p3 : Int64) (p4 : Int64) (k0 : Int32) (I : Nat → Int32) (J : Nat → Int64) (R : Nat → Nat → Int32) (G : Nat → Nat → Int64) : Prop := ∀ (X32 : (Nat → Int32) → (Nat → Int64) → (Nat → Nat → Int32) → (Nat → Nat → Int64) → Prop) (X101 : (Nat → Int32) → (Nat → Int64) → (Nat → Nat → Int32) → (Nat → Nat → Int64) → Prop) (X126 : Int32 → (Nat → Int32) → (Nat → Int64) → (Nat → Nat → Int32) → (Nat → Nat → Int64) → Prop) (X144 : Int32 → (Nat → Int32) → (Nat → Int64) → (Nat → Nat → Int32) → (Nat → Nat → Int64) → Prop), zX0_searchFrom Y post p1 p2 p3 p4 X32 X101 X126 X144 → X126 k0 I J R G
def qX0_searchFrom_144 (Y : ((Nat → Int32) → (Nat → Int64) → (Nat → Nat → Int32) → (Nat → Nat → Int64) → Prop) → Int32 → Int32 → Int64 → Int64 → (Nat → Int32) → (Nat → Int64) → (Nat → Nat → Int32) → (Nat → Nat → Int64) → Prop) (post : (Nat → Int32) → (Nat → Int64) → (Nat → Nat → Int32) → (Nat → Nat → Int64) → Prop) (p1 : Int32) (p2 : Int32) (p3 : Int64) (p4 : Int64) (x9 : Int32) (I : Nat → Int32) (J : Nat → Int64) (R : Nat → Nat → Int32) (G : Nat → Nat → Int64) : Prop := ∀ (X32 : (Nat → Int32) → (Nat → Int64) → (Nat → Nat → Int32) → (Nat → Nat → Int64) → Prop) (X101 : (Nat → Int32) → (Nat → Int64) → (Nat → Nat → Int32) → (Nat → Nat → Int64) → Prop) (X126 : Int32 → (Nat → Int32) → (Nat → Int64) → (Nat → Nat → Int32) → (Nat → Nat → Int64) → Prop) (X144 : Int32 → (Nat → Int32) → (Nat → Int64) → (Nat → Nat → Int32) → (Nat → Nat → Int64) → Prop), zX0_searchFrom Y post p1 p2 p3 p4 X32 X101 X126 X144 → X144 x9 I J R G
theorem kX0_searchFrom_32 {Y : ((Nat → Int32) → (Nat → Int64) → (Nat → Nat → Int32) → (Nat → Nat → Int64) → Prop) → Int32 → Int32 → Int64 → Int64 → (Nat → Int32) → (Nat → Int64) → (Nat → Nat → Int32) → (Nat → Nat → Int64) → Prop} {post : (Nat → Int32) → (Nat → Int64) → (Nat → Nat → Int32) → (Nat → Nat → Int64) → Prop} {p1 : Int32} {p2 : Int32} {p3 : Int64} {p4 : Int64} {I : Nat → Int32} {J : Nat → Int64} {R : Nat → Nat → Int32} {G : Nat → Nat → Int64} (h : ∃ Pc_2 : Int32 → Prop, qX0_isLost Pc_2 p1 p3 I J R G ∧ (∀ (rc_2 : Int32), Pc_2 rc_2 → (((rc_2 = 0) → (vp_in p1 15 ∧ (∀ x7_4 : Int64, x7_4 = p3 + (G 7 p1.toNatClampNeg) → (∃ Pc_5 : Int32 → Prop, qX0_someAbove Pc_5 x7_4 I J R G ∧ (∀ (rc_5 : Int32), Pc_5 rc_5 → (((¬ rc_5 = 0) → (qX0_searchFrom_101 Y post p1 p2 p3 p4 I J R G)) ∧ ((rc_5 = 0) → (∃ Pc_6 : Int32 → Prop, qX0_someBelow Pc_6 x7_4 I J R G ∧ (∀ (rc_6 : Int32), Pc_6 rc_6 → (((¬ rc_6 = 0) → (qX0_searchFrom_101 Y post p1 p2 p3 p4 I J R G)) ∧ ((rc_6 = 0) → (post (va_up (va_up I 11 (1 : Int32)) 12 (p2 ||| (R 8 p1.toNatClampNeg))) (va_up J 13 (p4 + (G 9 p1.toNatClampNeg))) R G)))))))))))) ∧ ((¬ rc_2 = 0) → (post I J R G))))) : qX0_searchFrom_32 Y post p1 p2 p3 p4 I J R G := by
  intro Z32 Z101 Z126 Z144 hcl
  refine hcl.1 I J R G ?_
  obtain ⟨P, h1, h2⟩ := h
  refine ⟨P, h1, fun b0 hp => ?_⟩
  have h := h2 b0 hp
  refine ⟨fun c => ?_, fun c => ?_⟩
  · have h := h.1 c
    refine ⟨h.1, ?_⟩
    have h := h.2
    intro x e
    have h := h x e
    obtain ⟨P, h1, h2⟩ := h
    refine ⟨P, h1, fun b0 hp => ?_⟩
    have h := h2 b0 hp
    refine ⟨fun c => ?_, fun c => ?_⟩
    · have h := h.1 c
      exact h _ _ _ _ hcl
    · have h := h.2 c
      obtain ⟨P, h1, h2⟩ := h
      refine ⟨P, h1, fun b0 hp => ?_⟩
      have h := h2 b0 hp
      refine ⟨fun c => ?_, fun c => ?_⟩
      · have h := h.1 c
        exact h _ _ _ _ hcl
      · have h := h.2 c
        exact h
  · have h := h.2 c
    exact h
theorem kX0_searchFrom_101 {Y : ((Nat → Int32) → (Nat → Int64) → (Nat → Nat → Int32) → (Nat → Nat → Int64) → Prop) → Int32 → Int32 → Int64 → Int64 → (Nat → Int32) → (Nat → Int64) → (Nat → Nat → Int32) → (Nat → Nat → Int64) → Prop} {post : (Nat → Int32) → (Nat → Int64) → (Nat → Nat → Int32) → (Nat → Nat → Int64) → Prop} {p1 : Int32} {p2 : Int32} {p3 : Int64} {p4 : Int64} {I : Nat → Int32} {J : Nat → Int64} {R : Nat → Nat → Int32} {G : Nat → Nat → Int64} (h : ((p1 < (I 2)) → (vp_in p1 14 ∧ ((((lg_cmp (G 5 p1.toNatClampNeg) (0 : Int64)) ≤ 0) → (qX0_searchFrom_126 Y post p1 p2 p3 p4 (0 : Int32) I J R G)) ∧ ((¬ (lg_cmp (G 5 p1.toNatClampNeg) (0 : Int64)) ≤ 0) → (qX0_searchFrom_126 Y post p1 p2 p3 p4 (1 : Int32) I J R G))))) ∧ ((¬ p1 < (I 2)) → (post I J R G))) : qX0_searchFrom_101 Y post p1 p2 p3 p4 I J R G := by
  intro Z32 Z101 Z126 Z144 hcl
  refine hcl.2.1 I J R G ?_
  refine ⟨fun c => ?_, fun c => ?_⟩
  · have h := h.1 c
    refine ⟨h.1, ?_⟩
    have h := h.2
    refine ⟨fun c => ?_, fun c => ?_⟩
    · have h := h.1 c
      exact h _ _ _ _ hcl
    · have h := h.2 c
      exact h _ _ _ _ hcl
  · have h := h.2 c
    exact h
theorem kX0_searchFrom_126 {Y : ((Nat → Int32) → (Nat → Int64) → (Nat → Nat → Int32) → (Nat → Nat → Int64) → Prop) → Int32 → Int32 → Int64 → Int64 → (Nat → Int32) → (Nat → Int64) → (Nat → Nat → Int32) → (Nat → Nat → Int64) → Prop} {post : (Nat → Int32) → (Nat → Int64) → (Nat → Nat → Int32) → (Nat → Nat → Int64) → Prop} {p1 : Int32} {p2 : Int32} {p3 : Int64} {p4 : Int64} {k0 : Int32} {I : Nat → Int32} {J : Nat → Int64} {R : Nat → Nat → Int32} {G : Nat → Nat → Int64} (h : ((¬ k0 = 0) → (qX0_searchFrom_144 Y post p1 p2 p3 p4 k0 I J R G)) ∧ ((k0 = 0) → (∃ Pc_8 : (Nat → Int32) → (Nat → Int64) → (Nat → Nat → Int32) → (Nat → Nat → Int64) → Prop, Y Pc_8 (p1 + (1 : Int32)) p2 p3 p4 I J R G ∧ (∀ (Ic_8 : Nat → Int32) (Jc_8 : Nat → Int64) (Rc_8 : Nat → Nat → Int32) (Gc_8 : Nat → Nat → Int64), Pc_8 Ic_8 Jc_8 Rc_8 Gc_8 → (qX0_searchFrom_144 Y post p1 p2 p3 p4 k0 Ic_8 Jc_8 Rc_8 Gc_8))))) : qX0_searchFrom_126 Y post p1 p2 p3 p4 k0 I J R G := by
  intro Z32 Z101 Z126 Z144 hcl
  refine hcl.2.2.1 k0 I J R G ?_
  refine ⟨fun c => ?_, fun c => ?_⟩
  · have h := h.1 c
    exact h _ _ _ _ hcl
  · have h := h.2 c
    obtain ⟨P, h1, h2⟩ := h
    refine ⟨P, h1, fun b0 b1 b2 b3 hp => ?_⟩
    have h := h2 b0 b1 b2 b3 hp
    exact h _ _ _ _ hcl
theorem kX0_searchFrom_144 {Y : ((Nat → Int32) → (Nat → Int64) → (Nat → Nat → Int32) → (Nat → Nat → Int64) → Prop) → Int32 → Int32 → Int64 → Int64 → (Nat → Int32) → (Nat → Int64) → (Nat → Nat → Int32) → (Nat → Nat → Int64) → Prop} {post : (Nat → Int32) → (Nat → Int64) → (Nat → Nat → Int32) → (Nat → Nat → Int64) → Prop} {p1 : Int32} {p2 : Int32} {p3 : Int64} {p4 : Int64} {x9 : Int32} {I : Nat → Int32} {J : Nat → Int64} {R : Nat → Nat → Int32} {G : Nat → Nat → Int64} (h : vp_in p1 14 ∧ (∃ Pc_10 : (Nat → Int32) → (Nat → Int64) → (Nat → Nat → Int32) → (Nat → Nat → Int64) → Prop, Y Pc_10 (p1 + (1 : Int32)) (p2 ||| (R 3 p1.toNatClampNeg)) (p3 + (G 4 p1.toNatClampNeg)) (p4 + (G 5 p1.toNatClampNeg)) I J R G ∧ (∀ (Ic_10 : Nat → Int32) (Jc_10 : Nat → Int64) (Rc_10 : Nat → Nat → Int32) (Gc_10 : Nat → Nat → Int64), Pc_10 Ic_10 Jc_10 Rc_10 Gc_10 → (((x9 = 0) → (post Ic_10 Jc_10 Rc_10 Gc_10)) ∧ ((¬ x9 = 0) → (∃ Pc_11 : (Nat → Int32) → (Nat → Int64) → (Nat → Nat → Int32) → (Nat → Nat → Int64) → Prop, Y Pc_11 (p1 + (1 : Int32)) p2 p3 p4 Ic_10 Jc_10 Rc_10 Gc_10 ∧ (∀ (Ic_11 : Nat → Int32) (Jc_11 : Nat → Int64) (Rc_11 : Nat → Nat → Int32) (Gc_11 : Nat → Nat → Int64), Pc_11 Ic_11 Jc_11 Rc_11 Gc_11 → (post Ic_11 Jc_11 Rc_11 Gc_11)))))))) : qX0_searchFrom_144 Y post p1 p2 p3 p4 x9 I J R G := by
  intro Z32 Z101 Z126 Z144 hcl
  refine hcl.2.2.2 x9 I J R G ?_
  refine ⟨h.1, ?_⟩
  have h := h.2
  obtain ⟨P, h1, h2⟩ := h
  refine ⟨P, h1, fun b0 b1 b2 b3 hp => ?_⟩
  have h := h2 b0 b1 b2 b3 hp
  refine ⟨fun c => ?_, fun c => ?_⟩
  · have h := h.1 c
    exact h
  · have h := h.2 c
    obtain ⟨P, h1, h2⟩ := h
    refine ⟨P, h1, fun b0 b1 b2 b3 hp => ?_⟩
    have h := h2 b0 b1 b2 b3 hp
    exact h
def qX0_searchFrom : Nat → ((Nat → Int32) → (Nat → Int64) → (Nat → Nat → Int32) → (Nat → Nat → Int64) → Prop) → Int32 → Int32 → Int64 → Int64 → (Nat → Int32) → (Nat → Int64) → (Nat → Nat → Int32) → (Nat → Nat → Int64) → Prop
  | 0, _, _, _, _, _, _, _, _, _ => False
  | d + 1, post, p1, p2, p3, p4, I, J, R, G => (((I 2) < p1) → (post I J R G)) ∧ ((¬ (I 2) < p1) → ((((I 11) = 0) → (qX0_searchFrom_32 (qX0_searchFrom d) post p1 p2 p3 p4 I J R G)) ∧ ((¬ (I 11) = 0) → (vp_in p1 15 ∧ ((((lg_cmp (p4 + (G 9 p1.toNatClampNeg)) (J 13)) ≤ 0) → (post I J R G)) ∧ ((¬ (lg_cmp (p4 + (G 9 p1.toNatClampNeg)) (J 13)) ≤ 0) → (qX0_searchFrom_32 (qX0_searchFrom d) post p1 p2 p3 p4 I J R G)))))))
theorem mX0_searchFrom_f41 : Cond.fieldLink RX0 41 "YearBook$Chooser" "size" "I" ∈ wsX0_searchFrom := by decide +kernel
theorem nX0_searchFrom_X0 : ∀ w ∈ u_ws RX0 TX0 14, w ∈ wsX0_searchFrom := by decide +kernel
theorem mX0_searchFrom_f56 : Cond.fieldLink RX0 56 "YearBook$Chooser" "found" "Z" ∈ wsX0_searchFrom := by decide +kernel
theorem mX0_searchFrom_f31 : Cond.fieldLink RX0 31 "YearBook$Chooser" "wishedMarksFrom" "[J" ∈ wsX0_searchFrom := by decide +kernel
theorem mX0_searchFrom_f68 : Cond.fieldLink RX0 68 "YearBook$Chooser" "bestMark" "J" ∈ wsX0_searchFrom := by decide +kernel
theorem mX0_searchFrom_f25 : Cond.fieldLink RX0 25 "YearBook$Chooser" "wishedShownFrom" "[J" ∈ wsX0_searchFrom := by decide +kernel
theorem mX0_searchFrom_f28 : Cond.fieldLink RX0 28 "YearBook$Chooser" "wishedBitsFrom" "[I" ∈ wsX0_searchFrom := by decide +kernel
theorem mX0_searchFrom_f82 : Cond.fieldLink RX0 82 "YearBook$Chooser" "bestSet" "I" ∈ wsX0_searchFrom := by decide +kernel
theorem mX0_searchFrom_f19 : Cond.fieldLink RX0 19 "YearBook$Chooser" "marks" "[J" ∈ wsX0_searchFrom := by decide +kernel
theorem mX0_searchFrom_f9 : Cond.fieldLink RX0 9 "YearBook$Chooser" "bits" "[I" ∈ wsX0_searchFrom := by decide +kernel
theorem mX0_searchFrom_f15 : Cond.fieldLink RX0 15 "YearBook$Chooser" "shown" "[J" ∈ wsX0_searchFrom := by decide +kernel
set_option maxHeartbeats 4000000 in
set_option maxRecDepth 100000 in
theorem tX0_searchFrom (l : Launch) (dC : Nat → ClassId) (dI : Nat → Nat → Nat) (cI : ClassId) (cJ : ClassId) (h : Nat) (ad : Nat → Nat) : ∀ (d : Nat) (sz : Nat) (post : (Nat → Int32) → (Nat → Int64) → (Nat → Nat → Int32) → (Nat → Nat → Int64) → Prop) (p1 : Int32) (p2 : Int32) (p3 : Int64) (p4 : Int64) (I : Nat → Int32) (J : Nat → Int64) (R : Nat → Nat → Int32) (G : Nat → Nat → Int64) (hq : qX0_searchFrom d post p1 p2 p3 p4 I J R G), Met l yX0_searchFrom wsX0_searchFrom ({ frames := 2 + d, cells := 0, slots := 0, locals := 53 + d * 29 } : Room) (va_Pc [.ref h, .int p1, .int p2, .long p3, .long p4] (wPre (dC, dI) vwCl [(cI, .int), (cJ, .long)] (wd0 cI cJ h ad I J R G) sz)) (va_Qv (fun (u : (Nat → Int32) × (Nat → Int64) × (Nat → Nat → Int32) × (Nat → Nat → Int64)) => post u.1 u.2.1 u.2.2.1 u.2.2.2) (wAt (dC, dI) vwCl [(cI, .int), (cJ, .long)] (va_A (wd0 cI cJ h ad I J R G) sz) (fun u : (Nat → Int32) × (Nat → Int64) × (Nat → Nat → Int32) × (Nat → Nat → Int64) => wd0 cI cJ h ad u.1 u.2.1 u.2.2.1 u.2.2.2)) (va_A (wd0 cI cJ h ad I J R G) sz)) 0 0 (va_A (wd0 cI cJ h ad I J R G) sz) := by
  intro d
  induction d with
  | zero => intro sz post p1 p2 p3 p4 I J R G hq; exact False.elim hq
  | succ d ih =>
    intro sz post p1 p2 p3 p4 I J R G hq
    unfold qX0_searchFrom at hq
    refine Met.ofW (cc := cX0_searchFrom) (maxL := 10) (ret := none) (by decide) rfl ?_
    intro p e s m args below meth c s₁ B hml hv
    obtain ⟨rfl, hsz, hP, hK, hD0⟩ := hv
    have hx := B.exec
    have hb := B.bytes
    have hr := B.returns
    have hts := atoms_spec (ws := wsX0_searchFrom) B.pre
    have hown : s.vm.findClass RX0 = some m.cls := findClass_of_methodNamed B.named
    have hlocks := B.notSynchronized
    subst hsz
    have hD := hD0.self (sz := s.heap.size)
    generalize hAe : va_A (wd0 cI cJ h ad I J R G) s.heap.size = A at hD ⊢
    have hA : ∀ q : Nat, s.heap.size ≤ q → A q := fun q h => by rw [← hAe]; exact Or.inr h
    have hS : va_S A s.heap s.heap [] := va_S.rf
    have hZ : zX0_searchFrom (qX0_searchFrom d) post p1 p2 p3 p4
        (fun (I : Nat → Int32) (J : Nat → Int64) (R : Nat → Nat → Int32) (G : Nat → Nat → Int64) => ∀ (H : Heap) (locs : List Loc) (ls : Array Slot), va_P (dC, dI) vwCl (wd0 cI cJ h ad I J R G) H → va_D A (wd0 cI cJ h ad I J R G) → va_S A s.heap H locs → lv_has ls 10 [(0, .ref h), (1, .int p1), (2, .int p2), (3, .long p3), (5, .long p4)] → W p l e (headSpec wsX0_searchFrom ({ frames := 2 + (d + 1), cells := 0, slots := 0, locals := 53 + (d + 1) * 29 } : Room)).room s m ([.ref h, .int p1, .int p2, .long p3, .long p4] : List Value).toArray below meth c H locs 0 0 (MQ below (va_Qv (fun (u : (Nat → Int32) × (Nat → Int64) × (Nat → Nat → Int32) × (Nat → Nat → Int64)) => post u.1 u.2.1 u.2.2.1 u.2.2.2) (wAt (dC, dI) vwCl [(cI, .int), (cJ, .long)] A (fun u : (Nat → Int32) × (Nat → Int64) × (Nat → Nat → Int32) × (Nat → Nat → Int64) => wd0 cI cJ h ad u.1 u.2.1 u.2.2.1 u.2.2.2)) A) ([.ref h, .int p1, .int p2, .long p3, .long p4] : List Value).toArray s 0 0 A) (F0 m 32 ls []))
        (fun (I : Nat → Int32) (J : Nat → Int64) (R : Nat → Nat → Int32) (G : Nat → Nat → Int64) => ∀ (H : Heap) (locs : List Loc) (ls : Array Slot), va_P (dC, dI) vwCl (wd0 cI cJ h ad I J R G) H → va_D A (wd0 cI cJ h ad I J R G) → va_S A s.heap H locs → lv_has ls 10 [(0, .ref h), (1, .int p1), (2, .int p2), (3, .long p3), (5, .long p4)] → W p l e (headSpec wsX0_searchFrom ({ frames := 2 + (d + 1), cells := 0, slots := 0, locals := 53 + (d + 1) * 29 } : Room)).room s m ([.ref h, .int p1, .int p2, .long p3, .long p4] : List Value).toArray below meth c H locs 0 0 (MQ below (va_Qv (fun (u : (Nat → Int32) × (Nat → Int64) × (Nat → Nat → Int32) × (Nat → Nat → Int64)) => post u.1 u.2.1 u.2.2.1 u.2.2.2) (wAt (dC, dI) vwCl [(cI, .int), (cJ, .long)] A (fun u : (Nat → Int32) × (Nat → Int64) × (Nat → Nat → Int32) × (Nat → Nat → Int64) => wd0 cI cJ h ad u.1 u.2.1 u.2.2.1 u.2.2.2)) A) ([.ref h, .int p1, .int p2, .long p3, .long p4] : List Value).toArray s 0 0 A) (F0 m 101 ls []))
        (fun (k0 : Int32) (I : Nat → Int32) (J : Nat → Int64) (R : Nat → Nat → Int32) (G : Nat → Nat → Int64) => ∀ (H : Heap) (locs : List Loc) (ls : Array Slot), va_P (dC, dI) vwCl (wd0 cI cJ h ad I J R G) H → va_D A (wd0 cI cJ h ad I J R G) → va_S A s.heap H locs → lv_has ls 10 [(0, .ref h), (1, .int p1), (2, .int p2), (3, .long p3), (5, .long p4)] → W p l e (headSpec wsX0_searchFrom ({ frames := 2 + (d + 1), cells := 0, slots := 0, locals := 53 + (d + 1) * 29 } : Room)).room s m ([.ref h, .int p1, .int p2, .long p3, .long p4] : List Value).toArray below meth c H locs 0 0 (MQ below (va_Qv (fun (u : (Nat → Int32) × (Nat → Int64) × (Nat → Nat → Int32) × (Nat → Nat → Int64)) => post u.1 u.2.1 u.2.2.1 u.2.2.2) (wAt (dC, dI) vwCl [(cI, .int), (cJ, .long)] A (fun u : (Nat → Int32) × (Nat → Int64) × (Nat → Nat → Int32) × (Nat → Nat → Int64) => wd0 cI cJ h ad u.1 u.2.1 u.2.2.1 u.2.2.2)) A) ([.ref h, .int p1, .int p2, .long p3, .long p4] : List Value).toArray s 0 0 A) (F0 m 126 ls [.int k0]))
        (fun (x9 : Int32) (I : Nat → Int32) (J : Nat → Int64) (R : Nat → Nat → Int32) (G : Nat → Nat → Int64) => ∀ (H : Heap) (locs : List Loc) (ls : Array Slot), va_P (dC, dI) vwCl (wd0 cI cJ h ad I J R G) H → va_D A (wd0 cI cJ h ad I J R G) → va_S A s.heap H locs → lv_has ls 10 [(0, .ref h), (1, .int p1), (2, .int p2), (3, .long p3), (5, .long p4), (9, .int x9)] → W p l e (headSpec wsX0_searchFrom ({ frames := 2 + (d + 1), cells := 0, slots := 0, locals := 53 + (d + 1) * 29 } : Room)).room s m ([.ref h, .int p1, .int p2, .long p3, .long p4] : List Value).toArray below meth c H locs 0 0 (MQ below (va_Qv (fun (u : (Nat → Int32) × (Nat → Int64) × (Nat → Nat → Int32) × (Nat → Nat → Int64)) => post u.1 u.2.1 u.2.2.1 u.2.2.2) (wAt (dC, dI) vwCl [(cI, .int), (cJ, .long)] A (fun u : (Nat → Int32) × (Nat → Int64) × (Nat → Nat → Int32) × (Nat → Nat → Int64) => wd0 cI cJ h ad u.1 u.2.1 u.2.2.1 u.2.2.2)) A) ([.ref h, .int p1, .int p2, .long p3, .long p4] : List Value).toArray s 0 0 A) (F0 m 144 ls [])) := by
      refine ⟨?_, ?_, ?_, ?_⟩
      · intro I J R G hq H locs ls hP hD hS hl
        refine lv_aload_n hx hb dX0_searchFrom_32 rfl (lv_at hl 0 rfl) ?_
        refine lv_iload_n hx hb dX0_searchFrom_33 rfl (lv_at hl 1 rfl) ?_
        refine lv_lload_n hx hb dX0_searchFrom_34 rfl (lv_at hl 3 rfl) ?_
        obtain ⟨Pc_2, hc, hq⟩ := hq
        refine w_calli (wf := fun _ : Unit => wd0 cI cJ h ad I J R G) (va_runV (As := [.int p1, .long p3]) (rest := []) ⟨hx, hb, hml, hown, hts⟩ (tX0_isLost l dC dI cI cJ h ad _ Pc_2 p1 p3 I J R G hc) (cwV 2 hts gX0_searchFrom_X0_isLost rfl rfl rfl (by decide +kernel) ⟨by show 1 + 1 ≤ 2 + (d + 1); omega, by show 8 + (4 + 11) + 30 ≤ 53 + (d + 1) * 29; omega⟩) (wPreV hK hP hD (ci := 0) (q0 := 0) rfl rfl) rfl rfl hl.1 rfl (lv_room (Nat.le_of_ble_eq_true rfl)) dX0_searchFrom_35 ⟨Nat.le_of_ble_eq_true rfl, Nat.le_of_ble_eq_true rfl⟩) hD hS hA (fun rc_2 u H locs hp hP hD hS => ?_)
        have hq := hq rc_2 hp
        have hP : va_P (dC, dI) vwCl (wd0 cI cJ h ad I J R G) H := hP
        have hD : va_D A (wd0 cI cJ h ad I J R G) := hD
        refine lv_if_eq (tgt := 42) hx hb dX0_searchFrom_38 (by decide) (fun hc => ?_) (fun hc => ?_)
        · have hq := hq.1 hc
          refine lv_lload_n hx hb dX0_searchFrom_42 rfl (lv_at hl 3 rfl) ?_
          refine lv_aload_n hx hb dX0_searchFrom_43 rfl (lv_at hl 0 rfl) ?_
          refine va_get (D := (dC, dI)) (ci := 0) (v := .ref (ad 7)) (C := RX0) (T := TX0) (N := 14) hx hb hts nX0_searchFrom_X0 hown hK hP 0 rfl rfl 7 (by decide) (hts _ mX0_searchFrom_f25) (fun _ h9 => h9) rfl dX0_searchFrom_44 ?_
          refine lv_iload_n hx hb dX0_searchFrom_47 rfl (lv_at hl 1 rfl) ?_
          obtain ⟨hi_3, hq⟩ := hq
          refine va_lald (f := G 7) hx hb hK hP 5 1 rfl rfl hi_3 dX0_searchFrom_48 ?_
          refine lv_ladd hx hb dX0_searchFrom_49 ?_
          refine lv_topl (fun x7_4 ex7_4 => ?_)
          have hq := hq x7_4 ex7_4
          refine lv_lstore (lv' := [(7, .long x7_4), (0, .ref h), (1, .int p1), (2, .int p2), (3, .long p3), (5, .long p4)]) hx hb dX0_searchFrom_50 hl (by decide) rfl (fun ls hl => ?_)
          refine lv_aload_n hx hb dX0_searchFrom_52 rfl (lv_at hl 1 rfl) ?_
          refine lv_lload hx hb dX0_searchFrom_53 (lv_at hl 0 rfl) ?_
          obtain ⟨Pc_5, hc, hq⟩ := hq
          refine w_calli (wf := fun _ : Unit => wd0 cI cJ h ad I J R G) (va_runV (As := [.long x7_4]) (rest := []) ⟨hx, hb, hml, hown, hts⟩ (tX0_someAbove l dC dI cI cJ h ad _ Pc_5 x7_4 I J R G hc) (cwV 1 hts gX0_searchFrom_X0_someAbove rfl rfl rfl (by decide +kernel) ⟨by show 0 + 1 ≤ 2 + (d + 1); omega, by show 8 + (9 + 11) + 0 ≤ 53 + (d + 1) * 29; omega⟩) (wPreV hK hP hD (ci := 0) (q0 := 0) rfl rfl) rfl rfl hl.1 rfl (lv_room (Nat.le_of_ble_eq_true rfl)) dX0_searchFrom_55 ⟨Nat.le_of_ble_eq_true rfl, Nat.le_of_ble_eq_true rfl⟩) hD hS hA (fun rc_5 u H locs hp hP hD hS => ?_)
          have hq := hq rc_5 hp
          have hP : va_P (dC, dI) vwCl (wd0 cI cJ h ad I J R G) H := hP
          have hD : va_D A (wd0 cI cJ h ad I J R G) := hD
          refine lv_if_ne (tgt := 101) hx hb dX0_searchFrom_58 (by decide) (fun hc => ?_) (fun hc => ?_)
          · have hq := hq.1 hc
            exact hq _ _ ls hP hD hS (lv_sub hl [1, 2, 3, 4, 5] rfl)
          · have hq := hq.2 hc
            refine lv_aload_n hx hb dX0_searchFrom_61 rfl (lv_at hl 1 rfl) ?_
            refine lv_lload hx hb dX0_searchFrom_62 (lv_at hl 0 rfl) ?_
            obtain ⟨Pc_6, hc, hq⟩ := hq
            refine w_calli (wf := fun _ : Unit => wd0 cI cJ h ad I J R G) (va_runV (As := [.long x7_4]) (rest := []) ⟨hx, hb, hml, hown, hts⟩ (tX0_someBelow l dC dI cI cJ h ad _ Pc_6 x7_4 I J R G hc) (cwV 1 hts gX0_searchFrom_X0_someBelow rfl rfl rfl (by decide +kernel) ⟨by show 0 + 1 ≤ 2 + (d + 1); omega, by show 8 + (11 + 11) + 0 ≤ 53 + (d + 1) * 29; omega⟩) (wPreV hK hP hD (ci := 0) (q0 := 0) rfl rfl) rfl rfl hl.1 rfl (lv_room (Nat.le_of_ble_eq_true rfl)) dX0_searchFrom_64 ⟨Nat.le_of_ble_eq_true rfl, Nat.le_of_ble_eq_true rfl⟩) hD hS hA (fun rc_6 u H locs hp hP hD hS => ?_)
            have hq := hq rc_6 hp
            have hP : va_P (dC, dI) vwCl (wd0 cI cJ h ad I J R G) H := hP
            have hD : va_D A (wd0 cI cJ h ad I J R G) := hD
            refine lv_if_ne (tgt := 101) hx hb dX0_searchFrom_67 (by decide) (fun hc => ?_) (fun hc => ?_)
            · have hq := hq.1 hc
              exact hq _ _ ls hP hD hS (lv_sub hl [1, 2, 3, 4, 5] rfl)
            · have hq := hq.2 hc
              refine lv_aload_n hx hb dX0_searchFrom_70 rfl (lv_at hl 1 rfl) ?_
              refine lv_iconst (v := (1 : Int32)) hx hb dX0_searchFrom_71 (by decide) ?_
              refine va_put (D := (dC, dI)) (ci := 0) (v := .int (1 : Int32)) (ty := .boolean) (C := RX0) (T := TX0) (N := 14) hx hb hts nX0_searchFrom_X0 tyX0 tyX0_ok nmX0 hown hK hP hD hS 0 rfl rfl 11 (by decide) (hts _ mX0_searchFrom_f56) (fun _ h9 => h9) rfl (by decide +kernel) rfl rfl (Nat.le_of_ble_eq_true rfl) dX0_searchFrom_72 (fun H locs hP hD hS => ?_)
              rw [wd0_I11] at hP hD
              refine lv_aload_n hx hb dX0_searchFrom_75 rfl (lv_at hl 1 rfl) ?_
              refine lv_iload_n hx hb dX0_searchFrom_76 rfl (lv_at hl 3 rfl) ?_
              refine lv_aload_n hx hb dX0_searchFrom_77 rfl (lv_at hl 1 rfl) ?_
              refine va_get (D := (dC, dI)) (ci := 0) (v := .ref (ad 8)) (C := RX0) (T := TX0) (N := 14) hx hb hts nX0_searchFrom_X0 hown hK hP 0 rfl rfl 8 (by decide) (hts _ mX0_searchFrom_f28) (fun _ h9 => h9) rfl dX0_searchFrom_78 ?_
              refine lv_iload_n hx hb dX0_searchFrom_81 rfl (lv_at hl 2 rfl) ?_
              refine va_iald (f := R 8) hx hb hK hP 6 0 rfl rfl hi_3 dX0_searchFrom_82 ?_
              refine lv_ior hx hb dX0_searchFrom_83 ?_
              refine va_put (D := (dC, dI)) (ci := 0) (v := .int (p2 ||| (R 8 p1.toNatClampNeg))) (ty := .int) (C := RX0) (T := TX0) (N := 14) hx hb hts nX0_searchFrom_X0 tyX0 tyX0_ok nmX0 hown hK hP hD hS 0 rfl rfl 12 (by decide) (hts _ mX0_searchFrom_f82) (fun _ h9 => h9) rfl (by decide +kernel) rfl rfl (Nat.le_of_ble_eq_true rfl) dX0_searchFrom_84 (fun H locs hP hD hS => ?_)
              rw [wd0_I12] at hP hD
              refine lv_aload_n hx hb dX0_searchFrom_87 rfl (lv_at hl 1 rfl) ?_
              refine lv_lload hx hb dX0_searchFrom_88 (lv_at hl 5 rfl) ?_
              refine lv_aload_n hx hb dX0_searchFrom_90 rfl (lv_at hl 1 rfl) ?_
              refine va_get (D := (dC, dI)) (ci := 0) (v := .ref (ad 9)) (C := RX0) (T := TX0) (N := 14) hx hb hts nX0_searchFrom_X0 hown hK hP 0 rfl rfl 9 (by decide) (hts _ mX0_searchFrom_f31) (fun _ h9 => h9) rfl dX0_searchFrom_91 ?_
              refine lv_iload_n hx hb dX0_searchFrom_94 rfl (lv_at hl 2 rfl) ?_
              refine va_lald (f := G 9) hx hb hK hP 7 1 rfl rfl hi_3 dX0_searchFrom_95 ?_
              refine lv_ladd hx hb dX0_searchFrom_96 ?_
              refine va_put (D := (dC, dI)) (ci := 0) (v := .long (p4 + (G 9 p1.toNatClampNeg))) (ty := .long) (C := RX0) (T := TX0) (N := 14) hx hb hts nX0_searchFrom_X0 tyX0 tyX0_ok nmX0 hown hK hP hD hS 0 rfl rfl 13 (by decide) (hts _ mX0_searchFrom_f68) (fun _ h9 => h9) rfl (by decide +kernel) rfl rfl (Nat.le_of_ble_eq_true rfl) dX0_searchFrom_97 (fun H locs hP hD hS => ?_)
              rw [wd0_J13] at hP hD
              exact w_vret (post := fun (u : (Nat → Int32) × (Nat → Int64) × (Nat → Nat → Int32) × (Nat → Nat → Int64)) => post u.1 u.2.1 u.2.2.1 u.2.2.2) (wf := fun u : (Nat → Int32) × (Nat → Int64) × (Nat → Nat → Int32) × (Nat → Nat → Int64) => wd0 cI cJ h ad u.1 u.2.1 u.2.2.1 u.2.2.2) (u := (va_up (va_up I 11 (1 : Int32)) 12 (p2 ||| (R 8 p1.toNatClampNeg)), va_up J 13 (p4 + (G 9 p1.toNatClampNeg)), R, G)) hx hb hr hK hP hD hS hq dX0_searchFrom_100 hlocks
        · have hq := hq.2 hc
          exact w_vret (post := fun (u : (Nat → Int32) × (Nat → Int64) × (Nat → Nat → Int32) × (Nat → Nat → Int64)) => post u.1 u.2.1 u.2.2.1 u.2.2.2) (wf := fun u : (Nat → Int32) × (Nat → Int64) × (Nat → Nat → Int32) × (Nat → Nat → Int64) => wd0 cI cJ h ad u.1 u.2.1 u.2.2.1 u.2.2.2) (u := (I, J, R, G)) hx hb hr hK hP hD hS hq dX0_searchFrom_41 hlocks
      · intro I J R G hq H locs ls hP hD hS hl
        refine lv_iload_n hx hb dX0_searchFrom_101 rfl (lv_at hl 1 rfl) ?_
        refine lv_aload_n hx hb dX0_searchFrom_102 rfl (lv_at hl 0 rfl) ?_
        refine va_get (D := (dC, dI)) (ci := 0) (v := .int (I 2)) (C := RX0) (T := TX0) (N := 14) hx hb hts nX0_searchFrom_X0 hown hK hP 0 rfl rfl 2 (by decide) (hts _ mX0_searchFrom_f41) (fun _ h9 => h9) rfl dX0_searchFrom_103 ?_
        refine lv_icmp_lt (tgt := 110) hx hb dX0_searchFrom_106 (by decide) (fun hc => ?_) (fun hc => ?_)
        · have hq := hq.1 hc
          refine lv_aload_n hx hb dX0_searchFrom_110 rfl (lv_at hl 0 rfl) ?_
          refine va_get (D := (dC, dI)) (ci := 0) (v := .ref (ad 5)) (C := RX0) (T := TX0) (N := 14) hx hb hts nX0_searchFrom_X0 hown hK hP 0 rfl rfl 5 (by decide) (hts _ mX0_searchFrom_f19) (fun _ h9 => h9) rfl dX0_searchFrom_111 ?_
          refine lv_iload_n hx hb dX0_searchFrom_114 rfl (lv_at hl 1 rfl) ?_
          obtain ⟨hi_7, hq⟩ := hq
          refine va_lald (f := G 5) hx hb hK hP 3 1 rfl rfl hi_7 dX0_searchFrom_115 ?_
          refine lv_lconst (v := (0 : Int64)) hx hb dX0_searchFrom_116 (by decide) ?_
          refine W.lcmp hx hb dX0_searchFrom_117 ?_
          refine lv_if_le (tgt := 125) hx hb dX0_searchFrom_118 (by decide) (fun hc => ?_) (fun hc => ?_)
          · have hq := hq.1 hc
            refine lv_iconst (v := (0 : Int32)) hx hb dX0_searchFrom_125 (by decide) ?_
            exact hq _ _ ls hP hD hS (lv_sub hl [0, 1, 2, 3, 4] rfl)
          · have hq := hq.2 hc
            refine lv_iconst (v := (1 : Int32)) hx hb dX0_searchFrom_121 (by decide) ?_
            refine lv_goto (tgt := 126) hx hb dX0_searchFrom_122 (by decide) ?_
            exact hq _ _ ls hP hD hS (lv_sub hl [0, 1, 2, 3, 4] rfl)
        · have hq := hq.2 hc
          exact w_vret (post := fun (u : (Nat → Int32) × (Nat → Int64) × (Nat → Nat → Int32) × (Nat → Nat → Int64)) => post u.1 u.2.1 u.2.2.1 u.2.2.2) (wf := fun u : (Nat → Int32) × (Nat → Int64) × (Nat → Nat → Int32) × (Nat → Nat → Int64) => wd0 cI cJ h ad u.1 u.2.1 u.2.2.1 u.2.2.2) (u := (I, J, R, G)) hx hb hr hK hP hD hS hq dX0_searchFrom_109 hlocks
      · intro k0 I J R G hq H locs ls hP hD hS hl
        refine lv_istore (lv' := [(9, .int k0), (0, .ref h), (1, .int p1), (2, .int p2), (3, .long p3), (5, .long p4)]) hx hb dX0_searchFrom_126 hl (by decide) rfl (fun ls hl => ?_)
        refine lv_iload hx hb dX0_searchFrom_128 (lv_at hl 0 rfl) ?_
        refine lv_if_ne (tgt := 144) hx hb dX0_searchFrom_130 (by decide) (fun hc => ?_) (fun hc => ?_)
        · have hq := hq.1 hc
          exact hq _ _ ls hP hD hS (lv_sub hl [1, 2, 3, 4, 5, 0] rfl)
        · have hq := hq.2 hc
          refine lv_aload_n hx hb dX0_searchFrom_133 rfl (lv_at hl 1 rfl) ?_
          refine lv_iload_n hx hb dX0_searchFrom_134 rfl (lv_at hl 2 rfl) ?_
          refine lv_iconst (v := (1 : Int32)) hx hb dX0_searchFrom_135 (by decide) ?_
          refine lv_iadd hx hb dX0_searchFrom_136 ?_
          refine lv_iload_n hx hb dX0_searchFrom_137 rfl (lv_at hl 3 rfl) ?_
          refine lv_lload_n hx hb dX0_searchFrom_138 rfl (lv_at hl 4 rfl) ?_
          refine lv_lload hx hb dX0_searchFrom_139 (lv_at hl 5 rfl) ?_
          obtain ⟨Pc_8, hc, hq⟩ := hq
          refine w_callv (wf := fun u : (Nat → Int32) × (Nat → Int64) × (Nat → Nat → Int32) × (Nat → Nat → Int64) => wd0 cI cJ h ad u.1 u.2.1 u.2.2.1 u.2.2.2) (va_runV (As := [.int (p1 + (1 : Int32)), .int p2, .long p3, .long p4]) (rest := []) ⟨hx, hb, hml, hown, hts⟩ (ih _ Pc_8 (p1 + (1 : Int32)) p2 p3 p4 I J R G hc) (cwV 4 hts gX0_searchFrom_X0_searchFrom rfl rfl rfl (by decide +kernel) ⟨by show 2 + d + 1 ≤ 2 + (d + 1); omega, by show 8 + (10 + 11) + (53 + d * 29) ≤ 53 + (d + 1) * 29; omega⟩) (wPreV hK hP hD (ci := 0) (q0 := 0) rfl rfl) rfl rfl hl.1 rfl (lv_room (Nat.le_of_ble_eq_true rfl)) dX0_searchFrom_141 ⟨Nat.le_of_ble_eq_true rfl, Nat.le_of_ble_eq_true rfl⟩) hD hS hA (fun u H locs hp hP hD hS => ?_)
          obtain ⟨Ic_8, Jc_8, Rc_8, Gc_8⟩ := u
          have hq := hq Ic_8 Jc_8 Rc_8 Gc_8 hp
          have hP : va_P (dC, dI) vwCl (wd0 cI cJ h ad Ic_8 Jc_8 Rc_8 Gc_8) H := hP
          have hD : va_D A (wd0 cI cJ h ad Ic_8 Jc_8 Rc_8 Gc_8) := hD
          exact hq _ _ ls hP hD hS (lv_sub hl [1, 2, 3, 4, 5, 0] rfl)
      · intro x9 I J R G hq H locs ls hP hD hS hl
        refine lv_aload_n hx hb dX0_searchFrom_144 rfl (lv_at hl 0 rfl) ?_
        refine lv_iload_n hx hb dX0_searchFrom_145 rfl (lv_at hl 1 rfl) ?_
        refine lv_iconst (v := (1 : Int32)) hx hb dX0_searchFrom_146 (by decide) ?_
        refine lv_iadd hx hb dX0_searchFrom_147 ?_
        refine lv_iload_n hx hb dX0_searchFrom_148 rfl (lv_at hl 2 rfl) ?_
        refine lv_aload_n hx hb dX0_searchFrom_149 rfl (lv_at hl 0 rfl) ?_
        refine va_get (D := (dC, dI)) (ci := 0) (v := .ref (ad 3)) (C := RX0) (T := TX0) (N := 14) hx hb hts nX0_searchFrom_X0 hown hK hP 0 rfl rfl 3 (by decide) (hts _ mX0_searchFrom_f9) (fun _ h9 => h9) rfl dX0_searchFrom_150 ?_
        refine lv_iload_n hx hb dX0_searchFrom_153 rfl (lv_at hl 1 rfl) ?_
        obtain ⟨hi_9, hq⟩ := hq
        refine va_iald (f := R 3) hx hb hK hP 1 0 rfl rfl hi_9 dX0_searchFrom_154 ?_
        refine lv_ior hx hb dX0_searchFrom_155 ?_
        refine lv_lload_n hx hb dX0_searchFrom_156 rfl (lv_at hl 3 rfl) ?_
        refine lv_aload_n hx hb dX0_searchFrom_157 rfl (lv_at hl 0 rfl) ?_
        refine va_get (D := (dC, dI)) (ci := 0) (v := .ref (ad 4)) (C := RX0) (T := TX0) (N := 14) hx hb hts nX0_searchFrom_X0 hown hK hP 0 rfl rfl 4 (by decide) (hts _ mX0_searchFrom_f15) (fun _ h9 => h9) rfl dX0_searchFrom_158 ?_
        refine lv_iload_n hx hb dX0_searchFrom_161 rfl (lv_at hl 1 rfl) ?_
        refine va_lald (f := G 4) hx hb hK hP 2 1 rfl rfl hi_9 dX0_searchFrom_162 ?_
        refine lv_ladd hx hb dX0_searchFrom_163 ?_
        refine lv_lload hx hb dX0_searchFrom_164 (lv_at hl 4 rfl) ?_
        refine lv_aload_n hx hb dX0_searchFrom_166 rfl (lv_at hl 0 rfl) ?_
        refine va_get (D := (dC, dI)) (ci := 0) (v := .ref (ad 5)) (C := RX0) (T := TX0) (N := 14) hx hb hts nX0_searchFrom_X0 hown hK hP 0 rfl rfl 5 (by decide) (hts _ mX0_searchFrom_f19) (fun _ h9 => h9) rfl dX0_searchFrom_167 ?_
        refine lv_iload_n hx hb dX0_searchFrom_170 rfl (lv_at hl 1 rfl) ?_
        refine va_lald (f := G 5) hx hb hK hP 3 1 rfl rfl hi_9 dX0_searchFrom_171 ?_
        refine lv_ladd hx hb dX0_searchFrom_172 ?_
        obtain ⟨Pc_10, hc, hq⟩ := hq
        refine w_callv (wf := fun u : (Nat → Int32) × (Nat → Int64) × (Nat → Nat → Int32) × (Nat → Nat → Int64) => wd0 cI cJ h ad u.1 u.2.1 u.2.2.1 u.2.2.2) (va_runV (As := [.int (p1 + (1 : Int32)), .int (p2 ||| (R 3 p1.toNatClampNeg)), .long (p3 + (G 4 p1.toNatClampNeg)), .long (p4 + (G 5 p1.toNatClampNeg))]) (rest := []) ⟨hx, hb, hml, hown, hts⟩ (ih _ Pc_10 (p1 + (1 : Int32)) (p2 ||| (R 3 p1.toNatClampNeg)) (p3 + (G 4 p1.toNatClampNeg)) (p4 + (G 5 p1.toNatClampNeg)) I J R G hc) (cwV 4 hts gX0_searchFrom_X0_searchFrom rfl rfl rfl (by decide +kernel) ⟨by show 2 + d + 1 ≤ 2 + (d + 1); omega, by show 8 + (10 + 11) + (53 + d * 29) ≤ 53 + (d + 1) * 29; omega⟩) (wPreV hK hP hD (ci := 0) (q0 := 0) rfl rfl) rfl rfl hl.1 rfl (lv_room (Nat.le_of_ble_eq_true rfl)) dX0_searchFrom_173 ⟨Nat.le_of_ble_eq_true rfl, Nat.le_of_ble_eq_true rfl⟩) hD hS hA (fun u H locs hp hP hD hS => ?_)
        obtain ⟨Ic_10, Jc_10, Rc_10, Gc_10⟩ := u
        have hq := hq Ic_10 Jc_10 Rc_10 Gc_10 hp
        have hP : va_P (dC, dI) vwCl (wd0 cI cJ h ad Ic_10 Jc_10 Rc_10 Gc_10) H := hP
        have hD : va_D A (wd0 cI cJ h ad Ic_10 Jc_10 Rc_10 Gc_10) := hD
        refine lv_iload hx hb dX0_searchFrom_176 (lv_at hl 5 rfl) ?_
        refine lv_if_eq (tgt := 192) hx hb dX0_searchFrom_178 (by decide) (fun hc => ?_) (fun hc => ?_)
        · have hq := hq.1 hc
          exact w_vret (post := fun (u : (Nat → Int32) × (Nat → Int64) × (Nat → Nat → Int32) × (Nat → Nat → Int64)) => post u.1 u.2.1 u.2.2.1 u.2.2.2) (wf := fun u : (Nat → Int32) × (Nat → Int64) × (Nat → Nat → Int32) × (Nat → Nat → Int64) => wd0 cI cJ h ad u.1 u.2.1 u.2.2.1 u.2.2.2) (u := (Ic_10, Jc_10, Rc_10, Gc_10)) hx hb hr hK hP hD hS hq dX0_searchFrom_192 hlocks
        · have hq := hq.2 hc
          refine lv_aload_n hx hb dX0_searchFrom_181 rfl (lv_at hl 0 rfl) ?_
          refine lv_iload_n hx hb dX0_searchFrom_182 rfl (lv_at hl 1 rfl) ?_
          refine lv_iconst (v := (1 : Int32)) hx hb dX0_searchFrom_183 (by decide) ?_
          refine lv_iadd hx hb dX0_searchFrom_184 ?_
          refine lv_iload_n hx hb dX0_searchFrom_185 rfl (lv_at hl 2 rfl) ?_
          refine lv_lload_n hx hb dX0_searchFrom_186 rfl (lv_at hl 3 rfl) ?_
          refine lv_lload hx hb dX0_searchFrom_187 (lv_at hl 4 rfl) ?_
          obtain ⟨Pc_11, hc, hq⟩ := hq
          refine w_callv (wf := fun u : (Nat → Int32) × (Nat → Int64) × (Nat → Nat → Int32) × (Nat → Nat → Int64) => wd0 cI cJ h ad u.1 u.2.1 u.2.2.1 u.2.2.2) (va_runV (As := [.int (p1 + (1 : Int32)), .int p2, .long p3, .long p4]) (rest := []) ⟨hx, hb, hml, hown, hts⟩ (ih _ Pc_11 (p1 + (1 : Int32)) p2 p3 p4 Ic_10 Jc_10 Rc_10 Gc_10 hc) (cwV 4 hts gX0_searchFrom_X0_searchFrom rfl rfl rfl (by decide +kernel) ⟨by show 2 + d + 1 ≤ 2 + (d + 1); omega, by show 8 + (10 + 11) + (53 + d * 29) ≤ 53 + (d + 1) * 29; omega⟩) (wPreV hK hP hD (ci := 0) (q0 := 0) rfl rfl) rfl rfl hl.1 rfl (lv_room (Nat.le_of_ble_eq_true rfl)) dX0_searchFrom_189 ⟨Nat.le_of_ble_eq_true rfl, Nat.le_of_ble_eq_true rfl⟩) hD hS hA (fun u H locs hp hP hD hS => ?_)
          obtain ⟨Ic_11, Jc_11, Rc_11, Gc_11⟩ := u
          have hq := hq Ic_11 Jc_11 Rc_11 Gc_11 hp
          have hP : va_P (dC, dI) vwCl (wd0 cI cJ h ad Ic_11 Jc_11 Rc_11 Gc_11) H := hP
          have hD : va_D A (wd0 cI cJ h ad Ic_11 Jc_11 Rc_11 Gc_11) := hD
          exact w_vret (post := fun (u : (Nat → Int32) × (Nat → Int64) × (Nat → Nat → Int32) × (Nat → Nat → Int64)) => post u.1 u.2.1 u.2.2.1 u.2.2.2) (wf := fun u : (Nat → Int32) × (Nat → Int64) × (Nat → Nat → Int32) × (Nat → Nat → Int64) => wd0 cI cJ h ad u.1 u.2.1 u.2.2.1 u.2.2.2) (u := (Ic_11, Jc_11, Rc_11, Gc_11)) hx hb hr hK hP hD hS hq dX0_searchFrom_192 hlocks
    have hl := lv_entry ([.ref h, .int p1, .int p2, .long p3, .long p4]) (n := 10) (Nat.le_of_ble_eq_true rfl)
    rw [lg_entry_eq]
    generalize (lg_sl ([.ref h, .int p1, .int p2, .long p3, .long p4]) ++ List.replicate (10 - (lg_sl ([.ref h, .int p1, .int p2, .long p3, .long p4])).length) Slot.unset).toArray = ls at hl ⊢
    have hl : lv_has ls 10 [(0, .ref h), (1, .int p1), (2, .int p2), (3, .long p3), (5, .long p4)] := hl
    refine lv_iload_n hx hb dX0_searchFrom_0 rfl (lv_at hl 1 rfl) ?_
    refine lv_aload_n hx hb dX0_searchFrom_1 rfl (lv_at hl 0 rfl) ?_
    refine va_get (D := (dC, dI)) (ci := 0) (v := .int (I 2)) (C := RX0) (T := TX0) (N := 14) hx hb hts nX0_searchFrom_X0 hown hK hP 0 rfl rfl 2 (by decide) (hts _ mX0_searchFrom_f41) (fun _ h9 => h9) rfl dX0_searchFrom_2 ?_
    refine lv_icmp_gt (tgt := 41) hx hb dX0_searchFrom_5 (by decide) (fun hc => ?_) (fun hc => ?_)
    · have hq := hq.1 hc
      exact w_vret (post := fun (u : (Nat → Int32) × (Nat → Int64) × (Nat → Nat → Int32) × (Nat → Nat → Int64)) => post u.1 u.2.1 u.2.2.1 u.2.2.2) (wf := fun u : (Nat → Int32) × (Nat → Int64) × (Nat → Nat → Int32) × (Nat → Nat → Int64) => wd0 cI cJ h ad u.1 u.2.1 u.2.2.1 u.2.2.2) (u := (I, J, R, G)) hx hb hr hK hP hD hS hq dX0_searchFrom_41 hlocks
    · have hq := hq.2 hc
      refine lv_aload_n hx hb dX0_searchFrom_8 rfl (lv_at hl 0 rfl) ?_
      refine va_get (D := (dC, dI)) (ci := 0) (v := .int (I 11)) (C := RX0) (T := TX0) (N := 14) hx hb hts nX0_searchFrom_X0 hown hK hP 0 rfl rfl 11 (by decide) (hts _ mX0_searchFrom_f56) (fun _ h9 => h9) rfl dX0_searchFrom_9 ?_
      refine lv_if_eq (tgt := 32) hx hb dX0_searchFrom_12 (by decide) (fun hc => ?_) (fun hc => ?_)
      · have hq := hq.1 hc
        exact hq _ _ _ _ hZ _ _ ls hP hD hS (lv_sub hl [0, 1, 2, 3, 4] rfl)
      · have hq := hq.2 hc
        refine lv_lload hx hb dX0_searchFrom_15 (lv_at hl 4 rfl) ?_
        refine lv_aload_n hx hb dX0_searchFrom_17 rfl (lv_at hl 0 rfl) ?_
        refine va_get (D := (dC, dI)) (ci := 0) (v := .ref (ad 9)) (C := RX0) (T := TX0) (N := 14) hx hb hts nX0_searchFrom_X0 hown hK hP 0 rfl rfl 9 (by decide) (hts _ mX0_searchFrom_f31) (fun _ h9 => h9) rfl dX0_searchFrom_18 ?_
        refine lv_iload_n hx hb dX0_searchFrom_21 rfl (lv_at hl 1 rfl) ?_
        obtain ⟨hi_1, hq⟩ := hq
        refine va_lald (f := G 9) hx hb hK hP 7 1 rfl rfl hi_1 dX0_searchFrom_22 ?_
        refine lv_ladd hx hb dX0_searchFrom_23 ?_
        refine lv_aload_n hx hb dX0_searchFrom_24 rfl (lv_at hl 0 rfl) ?_
        refine va_get (D := (dC, dI)) (ci := 0) (v := .long (J 13)) (C := RX0) (T := TX0) (N := 14) hx hb hts nX0_searchFrom_X0 hown hK hP 0 rfl rfl 13 (by decide) (hts _ mX0_searchFrom_f68) (fun _ h9 => h9) rfl dX0_searchFrom_25 ?_
        refine W.lcmp hx hb dX0_searchFrom_28 ?_
        refine lv_if_le (tgt := 41) hx hb dX0_searchFrom_29 (by decide) (fun hc => ?_) (fun hc => ?_)
        · have hq := hq.1 hc
          exact w_vret (post := fun (u : (Nat → Int32) × (Nat → Int64) × (Nat → Nat → Int32) × (Nat → Nat → Int64)) => post u.1 u.2.1 u.2.2.1 u.2.2.2) (wf := fun u : (Nat → Int32) × (Nat → Int64) × (Nat → Nat → Int32) × (Nat → Nat → Int64) => wd0 cI cJ h ad u.1 u.2.1 u.2.2.1 u.2.2.2) (u := (I, J, R, G)) hx hb hr hK hP hD hS hq dX0_searchFrom_41 hlocks
        · have hq := hq.2 hc
          exact hq _ _ _ _ hZ _ _ ls hP hD hS (lv_sub hl [0, 1, 2, 3, 4] rfl)
def qX0_findBest (post : Int32 → (Nat → Int32) → (Nat → Int64) → (Nat → Nat → Int32) → (Nat → Nat → Int64) → Prop) (I : Nat → Int32) (J : Nat → Int64) (R : Nat → Nat → Int32) (G : Nat → Nat → Int64) : Prop := ∃ Pc_1 : (Nat → Int32) → (Nat → Int64) → (Nat → Nat → Int32) → (Nat → Nat → Int64) → Prop, qX0_searchFrom 20 Pc_1 (0 : Int32) (0 : Int32) (0 : Int64) (0 : Int64) (va_up I 11 (0 : Int32)) J R G ∧ (∀ (Ic_1 : Nat → Int32) (Jc_1 : Nat → Int64) (Rc_1 : Nat → Nat → Int32) (Gc_1 : Nat → Nat → Int64), Pc_1 Ic_1 Jc_1 Rc_1 Gc_1 → (narrow .boolean (.int (Ic_1 11)) = .int (Ic_1 11) ∧ post (Ic_1 11) Ic_1 Jc_1 Rc_1 Gc_1))
theorem mX0_findBest_f56 : Cond.fieldLink RX0 56 "YearBook$Chooser" "found" "Z" ∈ wsX0_findBest := by decide +kernel
theorem nX0_findBest_X0 : ∀ w ∈ u_ws RX0 TX0 14, w ∈ wsX0_findBest := by decide +kernel
set_option maxHeartbeats 4000000 in
set_option maxRecDepth 100000 in
theorem tX0_findBest (l : Launch) (dC : Nat → ClassId) (dI : Nat → Nat → Nat) (cI : ClassId) (cJ : ClassId) (h : Nat) (ad : Nat → Nat)  (sz : Nat) (post : Int32 → (Nat → Int32) → (Nat → Int64) → (Nat → Nat → Int32) → (Nat → Nat → Int64) → Prop) (I : Nat → Int32) (J : Nat → Int64) (R : Nat → Nat → Int32) (G : Nat → Nat → Int64) (hq : qX0_findBest post I J R G) : Met l yX0_findBest wsX0_findBest ({ frames := 23, cells := 0, slots := 0, locals := 662 } : Room) (va_Pc [.ref h] (wPre (dC, dI) vwCl [(cI, .int), (cJ, .long)] (wd0 cI cJ h ad I J R G) sz)) (va_Qi (fun r (u : (Nat → Int32) × (Nat → Int64) × (Nat → Nat → Int32) × (Nat → Nat → Int64)) => post r u.1 u.2.1 u.2.2.1 u.2.2.2) (wAt (dC, dI) vwCl [(cI, .int), (cJ, .long)] (va_A (wd0 cI cJ h ad I J R G) sz) (fun u : (Nat → Int32) × (Nat → Int64) × (Nat → Nat → Int32) × (Nat → Nat → Int64) => wd0 cI cJ h ad u.1 u.2.1 u.2.2.1 u.2.2.2)) (va_A (wd0 cI cJ h ad I J R G) sz)) 0 0 (va_A (wd0 cI cJ h ad I J R G) sz) := by
  unfold qX0_findBest at hq
  refine Met.ofW (cc := cX0_findBest) (maxL := 1) (ret := (some .boolean)) (by decide) rfl ?_
  intro p e s m args below meth c s₁ B hml hv
  obtain ⟨rfl, hsz, hP, hK, hD0⟩ := hv
  have hx := B.exec
  have hb := B.bytes
  have hr := B.returns
  have hts := atoms_spec (ws := wsX0_findBest) B.pre
  have hown : s.vm.findClass RX0 = some m.cls := findClass_of_methodNamed B.named
  have hlocks := B.notSynchronized
  subst hsz
  have hD := hD0.self (sz := s.heap.size)
  generalize hAe : va_A (wd0 cI cJ h ad I J R G) s.heap.size = A at hD ⊢
  have hA : ∀ q : Nat, s.heap.size ≤ q → A q := fun q h => by rw [← hAe]; exact Or.inr h
  have hS : va_S A s.heap s.heap [] := va_S.rf
  have hl := lv_entry ([.ref h]) (n := 1) (Nat.le_of_ble_eq_true rfl)
  rw [lg_entry_eq]
  generalize (lg_sl ([.ref h]) ++ List.replicate (1 - (lg_sl ([.ref h])).length) Slot.unset).toArray = ls at hl ⊢
  have hl : lv_has ls 1 [(0, .ref h)] := hl
  refine lv_aload_n hx hb dX0_findBest_0 rfl (lv_at hl 0 rfl) ?_
  refine lv_iconst (v := (0 : Int32)) hx hb dX0_findBest_1 (by decide) ?_
  refine va_put (D := (dC, dI)) (ci := 0) (v := .int (0 : Int32)) (ty := .boolean) (C := RX0) (T := TX0) (N := 14) hx hb hts nX0_findBest_X0 tyX0 tyX0_ok nmX0 hown hK hP hD hS 0 rfl rfl 11 (by decide) (hts _ mX0_findBest_f56) (fun _ h9 => h9) rfl (by decide +kernel) rfl rfl (Nat.le_of_ble_eq_true rfl) dX0_findBest_2 (fun H locs hP hD hS => ?_)
  rw [wd0_I11] at hP hD
  refine lv_aload_n hx hb dX0_findBest_5 rfl (lv_at hl 0 rfl) ?_
  refine lv_iconst (v := (0 : Int32)) hx hb dX0_findBest_6 (by decide) ?_
  refine lv_iconst (v := (0 : Int32)) hx hb dX0_findBest_7 (by decide) ?_
  refine lv_lconst (v := (0 : Int64)) hx hb dX0_findBest_8 (by decide) ?_
  refine lv_lconst (v := (0 : Int64)) hx hb dX0_findBest_9 (by decide) ?_
  obtain ⟨Pc_1, hc, hq⟩ := hq
  refine w_callv (wf := fun u : (Nat → Int32) × (Nat → Int64) × (Nat → Nat → Int32) × (Nat → Nat → Int64) => wd0 cI cJ h ad u.1 u.2.1 u.2.2.1 u.2.2.2) (va_runV (As := [.int (0 : Int32), .int (0 : Int32), .long (0 : Int64), .long (0 : Int64)]) (rest := []) ⟨hx, hb, hml, hown, hts⟩ (tX0_searchFrom l dC dI cI cJ h ad 20 _ Pc_1 (0 : Int32) (0 : Int32) (0 : Int64) (0 : Int64) (va_up I 11 (0 : Int32)) J R G hc) (cwV 4 hts gX0_findBest_X0_searchFrom rfl rfl rfl (by decide +kernel) ⟨Nat.le_of_ble_eq_true rfl, Nat.le_of_ble_eq_true rfl⟩) (wPreV hK hP hD (ci := 0) (q0 := 0) rfl rfl) rfl rfl hl.1 rfl (lv_room (Nat.le_of_ble_eq_true rfl)) dX0_findBest_10 ⟨Nat.le_of_ble_eq_true rfl, Nat.le_of_ble_eq_true rfl⟩) hD hS hA (fun u H locs hp hP hD hS => ?_)
  obtain ⟨Ic_1, Jc_1, Rc_1, Gc_1⟩ := u
  have hq := hq Ic_1 Jc_1 Rc_1 Gc_1 hp
  have hP : va_P (dC, dI) vwCl (wd0 cI cJ h ad Ic_1 Jc_1 Rc_1 Gc_1) H := hP
  have hD : va_D A (wd0 cI cJ h ad Ic_1 Jc_1 Rc_1 Gc_1) := hD
  refine lv_aload_n hx hb dX0_findBest_13 rfl (lv_at hl 0 rfl) ?_
  refine va_get (D := (dC, dI)) (ci := 0) (v := .int (Ic_1 11)) (C := RX0) (T := TX0) (N := 14) hx hb hts nX0_findBest_X0 hown hK hP 0 rfl rfl 11 (by decide) (hts _ mX0_findBest_f56) (fun _ h9 => h9) rfl dX0_findBest_14 ?_
  exact w_zret (post := fun r (u : (Nat → Int32) × (Nat → Int64) × (Nat → Nat → Int32) × (Nat → Nat → Int64)) => post r u.1 u.2.1 u.2.2.1 u.2.2.2) (wf := fun u : (Nat → Int32) × (Nat → Int64) × (Nat → Nat → Int32) × (Nat → Nat → Int64) => wd0 cI cJ h ad u.1 u.2.1 u.2.2.1 u.2.2.2) (u := (Ic_1, Jc_1, Rc_1, Gc_1)) hx hb hr hq.1 hK hP hD hS hq.2 dX0_findBest_17 hlocks
def zX0_inFours (post : Int64 → Prop) (p1 : Int32) (X4 : Int64 → Int32 → Prop) : Prop :=
  (∀ (x1 : Int64) (x3 : Int32), ((((16 : Int32) ≤ x3) → (post x1)) ∧ ((¬ (16 : Int32) ≤ x3) → (((((p1 >>> (x3 &&& 31)) &&& (1 : Int32)) = 0) → (X4 x1 (x3 + (1 : Int32)))) ∧ ((¬ ((p1 >>> (x3 &&& 31)) &&& (1 : Int32)) = 0) → (∀ x1_1 : Int64, x1_1 = x1 ||| ((1 : Int64) <<< (((4 : Int32) * x3).toInt64 &&& 63)) → (X4 x1_1 (x3 + (1 : Int32)))))))) → X4 x1 x3)
def qX0_inFours_4 (post : Int64 → Prop) (p1 : Int32) (x1 : Int64) (x3 : Int32) : Prop := ∀ (X4 : Int64 → Int32 → Prop), zX0_inFours post p1 X4 → X4 x1 x3
theorem kX0_inFours_4 {post : Int64 → Prop} {p1 : Int32} {x1 : Int64} {x3 : Int32} (h : (((16 : Int32) ≤ x3) → (post x1)) ∧ ((¬ (16 : Int32) ≤ x3) → (((((p1 >>> (x3 &&& 31)) &&& (1 : Int32)) = 0) → (qX0_inFours_4 post p1 x1 (x3 + (1 : Int32)))) ∧ ((¬ ((p1 >>> (x3 &&& 31)) &&& (1 : Int32)) = 0) → (∀ x1_1 : Int64, x1_1 = x1 ||| ((1 : Int64) <<< (((4 : Int32) * x3).toInt64 &&& 63)) → (qX0_inFours_4 post p1 x1_1 (x3 + (1 : Int32)))))))) : qX0_inFours_4 post p1 x1 x3 := by
  intro Z4 hcl
  refine hcl x1 x3 ?_
  refine ⟨fun c => ?_, fun c => ?_⟩
  · have h := h.1 c
    exact h
  · have h := h.2 c
    refine ⟨fun c => ?_, fun c => ?_⟩
    · have h := h.1 c
      exact h _ hcl
    · have h := h.2 c
      intro x e
      have h := h x e
      exact h _ hcl
def qX0_inFours (post : Int64 → Prop) (p1 : Int32) : Prop := qX0_inFours_4 post p1 (0 : Int64) (0 : Int32)
set_option maxHeartbeats 4000000 in
set_option maxRecDepth 100000 in
theorem tX0_inFours (l : Launch) (post : Int64 → Prop) (p1 : Int32) (hq : qX0_inFours post p1) : Met l yX0_inFours wsX0_inFours ({ frames := 0, cells := 0, slots := 0, locals := 0 } : Room) (fun v _ => v = ([.int p1] : List Value).toArray) (vp_Sl post) 0 0 (fun _ => False) := by
  unfold qX0_inFours at hq
  refine Met.ofW (cc := cX0_inFours) (maxL := 4) (ret := (some .long)) (by decide) rfl ?_
  intro p e s m args below meth c s₁ B hml hv
  obtain rfl := hv
  have hx := B.exec
  have hb := B.bytes
  have hr := B.returns
  have hts := atoms_spec (ws := wsX0_inFours) B.pre
  have hown : s.vm.findClass RX0 = some m.cls := findClass_of_methodNamed B.named
  have hlocks := B.notSynchronized
  have hZ : zX0_inFours post p1
      (fun (x1 : Int64) (x3 : Int32) => ∀ (ls : Array Slot), lv_has ls 4 [(0, .int p1), (1, .long x1), (3, .int x3)] → W p l e (headSpec wsX0_inFours ({ frames := 0, cells := 0, slots := 0, locals := 0 } : Room)).room s m ([.int p1] : List Value).toArray below meth c s.heap [] 0 0 (MQ below (vp_Sl post) ([.int p1] : List Value).toArray s 0 0 (fun _ => False)) (F0 m 4 ls [])) := by
    unfold zX0_inFours
    intro x1 x3 hq ls hl
    refine lv_iload_n hx hb dX0_inFours_4 rfl (lv_at hl 2 rfl) ?_
    refine lv_bipush (v := (16 : Int32)) hx hb dX0_inFours_5 (by decide) ?_
    refine lv_icmp_ge (tgt := 32) hx hb dX0_inFours_7 (by decide) (fun hc => ?_) (fun hc => ?_)
    · have hq := hq.1 hc
      refine lv_lload_n hx hb dX0_inFours_32 rfl (lv_at hl 1 rfl) ?_
      exact s_lret hx hb hr hq dX0_inFours_33 hlocks
    · have hq := hq.2 hc
      refine lv_iload_n hx hb dX0_inFours_10 rfl (lv_at hl 0 rfl) ?_
      refine lv_iload_n hx hb dX0_inFours_11 rfl (lv_at hl 2 rfl) ?_
      refine lv_ishr hx hb dX0_inFours_12 ?_
      refine lv_iconst (v := (1 : Int32)) hx hb dX0_inFours_13 (by decide) ?_
      refine lv_iand hx hb dX0_inFours_14 ?_
      refine lv_if_eq (tgt := 26) hx hb dX0_inFours_15 (by decide) (fun hc => ?_) (fun hc => ?_)
      · have hq := hq.1 hc
        refine lv_iinc (v := x3 + (1 : Int32)) (lv' := [(3, .int (x3 + (1 : Int32))), (0, .int p1), (1, .long x1)]) hx hb dX0_inFours_26 hl (k := 2) rfl rfl (by decide) rfl (fun ls hl => ?_)
        refine lv_goto (tgt := 4) hx hb dX0_inFours_29 (by decide) ?_
        exact hq ls (lv_sub hl [1, 2, 0] rfl)
      · have hq := hq.2 hc
        refine lv_lload_n hx hb dX0_inFours_18 rfl (lv_at hl 1 rfl) ?_
        refine lv_lconst (v := (1 : Int64)) hx hb dX0_inFours_19 (by decide) ?_
        refine lv_iconst (v := (4 : Int32)) hx hb dX0_inFours_20 (by decide) ?_
        refine lv_iload_n hx hb dX0_inFours_21 rfl (lv_at hl 2 rfl) ?_
        refine lv_imul hx hb dX0_inFours_22 ?_
        refine lv_lshl (v := (1 : Int64) <<< (((4 : Int32) * x3).toInt64 &&& 63)) hx hb dX0_inFours_23 rfl ?_
        refine lv_lor hx hb dX0_inFours_24 ?_
        refine lv_topl (fun x1_1 ex1_1 => ?_)
        have hq := hq x1_1 ex1_1
        refine lv_lstore_n (lv' := [(1, .long x1_1), (0, .int p1), (3, .int x3)]) hx hb dX0_inFours_25 rfl hl (by decide) rfl (fun ls hl => ?_)
        refine lv_iinc (v := x3 + (1 : Int32)) (lv' := [(3, .int (x3 + (1 : Int32))), (1, .long x1_1), (0, .int p1)]) hx hb dX0_inFours_26 hl (k := 2) rfl rfl (by decide) rfl (fun ls hl => ?_)
        refine lv_goto (tgt := 4) hx hb dX0_inFours_29 (by decide) ?_
        exact hq ls (lv_sub hl [2, 1, 0] rfl)
  have hl := lv_entry ([.int p1]) (n := 4) (Nat.le_of_ble_eq_true rfl)
  rw [lg_entry_eq]
  generalize (lg_sl ([.int p1]) ++ List.replicate (4 - (lg_sl ([.int p1])).length) Slot.unset).toArray = ls at hl ⊢
  have hl : lv_has ls 4 [(0, .int p1)] := hl
  refine lv_lconst (v := (0 : Int64)) hx hb dX0_inFours_0 (by decide) ?_
  refine lv_lstore_n (lv' := [(1, .long (0 : Int64)), (0, .int p1)]) hx hb dX0_inFours_1 rfl hl (by decide) rfl (fun ls hl => ?_)
  refine lv_iconst (v := (0 : Int32)) hx hb dX0_inFours_2 (by decide) ?_
  refine lv_istore_n (lv' := [(3, .int (0 : Int32)), (1, .long (0 : Int64)), (0, .int p1)]) hx hb dX0_inFours_3 rfl hl (by decide) rfl (fun ls hl => ?_)
  exact hq _ hZ ls (lv_sub hl [2, 1, 0] rfl)
