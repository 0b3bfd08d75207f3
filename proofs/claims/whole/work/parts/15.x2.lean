def qX2_add (post : (Nat → Int32) → (Nat → Nat → Int32) → Prop) (p1 : Int32) (p2 : Int32) (p3 : Int32) (p4 : Int32) (I : Nat → Int32) (R : Nat → Nat → Int32) : Prop := (((8 : Int32) ≤ (I 3)) → (post I R)) ∧ ((¬ (8 : Int32) ≤ (I 3)) → (vp_in (I 3) 8 ∧ (post (va_up I 3 ((I 3) + (1 : Int32))) (va_up (va_up (va_up (va_up R 4 (upd (R 4) (I 3).toNatClampNeg p1)) 5 (upd (R 5) (I 3).toNatClampNeg p2)) 6 (upd (R 6) (I 3).toNatClampNeg p3)) 7 (upd (R 7) (I 3).toNatClampNeg p4)))))
theorem mX2_add_f37 : Cond.fieldLink RX2 37 "YearBook$Picture" "faces" "I" ∈ wsX2_add := by decide +kernel
theorem nX2_add_X2 : ∀ w ∈ u_ws RX2 TX2 11, w ∈ wsX2_add := by decide +kernel
theorem mX2_add_f9 : Cond.fieldLink RX2 9 "YearBook$Picture" "who" "[I" ∈ wsX2_add := by decide +kernel
theorem mX2_add_f15 : Cond.fieldLink RX2 15 "YearBook$Picture" "xs" "[I" ∈ wsX2_add := by decide +kernel
theorem mX2_add_f18 : Cond.fieldLink RX2 18 "YearBook$Picture" "ys" "[I" ∈ wsX2_add := by decide +kernel
theorem mX2_add_f21 : Cond.fieldLink RX2 21 "YearBook$Picture" "halves" "[I" ∈ wsX2_add := by decide +kernel
set_option maxHeartbeats 4000000 in
set_option maxRecDepth 100000 in
theorem tX2_add (l : Launch) (dC : Nat → ClassId) (dI : Nat → Nat → Nat) (cI : ClassId) (h : Nat) (ad : Nat → Nat)  (sz : Nat) (post : (Nat → Int32) → (Nat → Nat → Int32) → Prop) (p1 : Int32) (p2 : Int32) (p3 : Int32) (p4 : Int32) (I : Nat → Int32) (R : Nat → Nat → Int32) (hq : qX2_add post p1 p2 p3 p4 I R) : Met l yX2_add wsX2_add ({ frames := 0, cells := 0, slots := 0, locals := 0 } : Room) (va_Pc [.ref h, .int p1, .int p2, .int p3, .int p4] (wPre (dC, dI) vwCl [(cI, .int)] (wd2 cI h ad I R) sz)) (va_Qv (fun (u : (Nat → Int32) × (Nat → Nat → Int32)) => post u.1 u.2) (wAt (dC, dI) vwCl [(cI, .int)] (va_A (wd2 cI h ad I R) sz) (fun u : (Nat → Int32) × (Nat → Nat → Int32) => wd2 cI h ad u.1 u.2)) (va_A (wd2 cI h ad I R) sz)) 0 0 (va_A (wd2 cI h ad I R) sz) := by
  unfold qX2_add at hq
  refine Met.ofW (cc := cX2_add) (maxL := 5) (ret := none) (by decide) rfl ?_
  intro p e s m args below meth c s₁ B hml hv
  obtain ⟨rfl, hsz, hP, hK, hD0⟩ := hv
  have hx := B.exec
  have hb := B.bytes
  have hr := B.returns
  have hts := atoms_spec (ws := wsX2_add) B.pre
  have hown : s.vm.findClass RX2 = some m.cls := findClass_of_methodNamed B.named
  have hlocks := B.notSynchronized
  subst hsz
  have hD := hD0.self (sz := s.heap.size)
  generalize hAe : va_A (wd2 cI h ad I R) s.heap.size = A at hD ⊢
  have hA : ∀ q : Nat, s.heap.size ≤ q → A q := fun q h => by rw [← hAe]; exact Or.inr h
  have hS : va_S A s.heap s.heap [] := va_S.rf
  have hl := lv_entry ([.ref h, .int p1, .int p2, .int p3, .int p4]) (n := 5) (Nat.le_of_ble_eq_true rfl)
  rw [lg_entry_eq]
  generalize (lg_sl ([.ref h, .int p1, .int p2, .int p3, .int p4]) ++ List.replicate (5 - (lg_sl ([.ref h, .int p1, .int p2, .int p3, .int p4])).length) Slot.unset).toArray = ls at hl ⊢
  have hl : lv_has ls 5 [(0, .ref h), (1, .int p1), (2, .int p2), (3, .int p3), (4, .int p4)] := hl
  refine lv_aload_n hx hb dX2_add_0 rfl (lv_at hl 0 rfl) ?_
  refine va_get (D := (dC, dI)) (ci := 2) (v := .int (I 3)) (C := RX2) (T := TX2) (N := 11) hx hb hts nX2_add_X2 hown hK hP 0 rfl rfl 3 (by decide) (hts _ mX2_add_f37) (fun _ h9 => h9) rfl dX2_add_1 ?_
  refine lv_bipush (v := (8 : Int32)) hx hb dX2_add_4 (by decide) ?_
  refine lv_icmp_ge (tgt := 60) hx hb dX2_add_6 (by decide) (fun hc => ?_) (fun hc => ?_)
  · have hq := hq.1 hc
    exact w_vret (post := fun (u : (Nat → Int32) × (Nat → Nat → Int32)) => post u.1 u.2) (wf := fun u : (Nat → Int32) × (Nat → Nat → Int32) => wd2 cI h ad u.1 u.2) (u := (I, R)) hx hb hr hK hP hD hS hq dX2_add_60 hlocks
  · have hq := hq.2 hc
    refine lv_aload_n hx hb dX2_add_9 rfl (lv_at hl 0 rfl) ?_
    refine va_get (D := (dC, dI)) (ci := 2) (v := .ref (ad 4)) (C := RX2) (T := TX2) (N := 11) hx hb hts nX2_add_X2 hown hK hP 0 rfl rfl 4 (by decide) (hts _ mX2_add_f9) (fun _ h9 => h9) rfl dX2_add_10 ?_
    refine lv_aload_n hx hb dX2_add_13 rfl (lv_at hl 0 rfl) ?_
    refine va_get (D := (dC, dI)) (ci := 2) (v := .int (I 3)) (C := RX2) (T := TX2) (N := 11) hx hb hts nX2_add_X2 hown hK hP 0 rfl rfl 3 (by decide) (hts _ mX2_add_f37) (fun _ h9 => h9) rfl dX2_add_14 ?_
    refine lv_iload_n hx hb dX2_add_17 rfl (lv_at hl 1 rfl) ?_
    obtain ⟨hi_1, hq⟩ := hq
    refine va_iast (f := R 4) hx hb hK hP hD hS 1 0 rfl rfl hi_1 dX2_add_18 (fun H locs hP hD hS => ?_)
    rw [wd2_R4] at hP hD
    refine lv_aload_n hx hb dX2_add_19 rfl (lv_at hl 0 rfl) ?_
    refine va_get (D := (dC, dI)) (ci := 2) (v := .ref (ad 5)) (C := RX2) (T := TX2) (N := 11) hx hb hts nX2_add_X2 hown hK hP 0 rfl rfl 5 (by decide) (hts _ mX2_add_f15) (fun _ h9 => h9) rfl dX2_add_20 ?_
    refine lv_aload_n hx hb dX2_add_23 rfl (lv_at hl 0 rfl) ?_
    refine va_get (D := (dC, dI)) (ci := 2) (v := .int (I 3)) (C := RX2) (T := TX2) (N := 11) hx hb hts nX2_add_X2 hown hK hP 0 rfl rfl 3 (by decide) (hts _ mX2_add_f37) (fun _ h9 => h9) rfl dX2_add_24 ?_
    refine lv_iload_n hx hb dX2_add_27 rfl (lv_at hl 2 rfl) ?_
    refine va_iast (f := R 5) hx hb hK hP hD hS 2 0 rfl rfl hi_1 dX2_add_28 (fun H locs hP hD hS => ?_)
    rw [wd2_R5] at hP hD
    refine lv_aload_n hx hb dX2_add_29 rfl (lv_at hl 0 rfl) ?_
    refine va_get (D := (dC, dI)) (ci := 2) (v := .ref (ad 6)) (C := RX2) (T := TX2) (N := 11) hx hb hts nX2_add_X2 hown hK hP 0 rfl rfl 6 (by decide) (hts _ mX2_add_f18) (fun _ h9 => h9) rfl dX2_add_30 ?_
    refine lv_aload_n hx hb dX2_add_33 rfl (lv_at hl 0 rfl) ?_
    refine va_get (D := (dC, dI)) (ci := 2) (v := .int (I 3)) (C := RX2) (T := TX2) (N := 11) hx hb hts nX2_add_X2 hown hK hP 0 rfl rfl 3 (by decide) (hts _ mX2_add_f37) (fun _ h9 => h9) rfl dX2_add_34 ?_
    refine lv_iload_n hx hb dX2_add_37 rfl (lv_at hl 3 rfl) ?_
    refine va_iast (f := R 6) hx hb hK hP hD hS 3 0 rfl rfl hi_1 dX2_add_38 (fun H locs hP hD hS => ?_)
    rw [wd2_R6] at hP hD
    refine lv_aload_n hx hb dX2_add_39 rfl (lv_at hl 0 rfl) ?_
    refine va_get (D := (dC, dI)) (ci := 2) (v := .ref (ad 7)) (C := RX2) (T := TX2) (N := 11) hx hb hts nX2_add_X2 hown hK hP 0 rfl rfl 7 (by decide) (hts _ mX2_add_f21) (fun _ h9 => h9) rfl dX2_add_40 ?_
    refine lv_aload_n hx hb dX2_add_43 rfl (lv_at hl 0 rfl) ?_
    refine va_get (D := (dC, dI)) (ci := 2) (v := .int (I 3)) (C := RX2) (T := TX2) (N := 11) hx hb hts nX2_add_X2 hown hK hP 0 rfl rfl 3 (by decide) (hts _ mX2_add_f37) (fun _ h9 => h9) rfl dX2_add_44 ?_
    refine lv_iload hx hb dX2_add_47 (lv_at hl 4 rfl) ?_
    refine va_iast (f := R 7) hx hb hK hP hD hS 4 0 rfl rfl hi_1 dX2_add_49 (fun H locs hP hD hS => ?_)
    rw [wd2_R7] at hP hD
    refine lv_aload_n hx hb dX2_add_50 rfl (lv_at hl 0 rfl) ?_
    refine lv_dup hx hb dX2_add_51 rfl ?_
    refine va_get (D := (dC, dI)) (ci := 2) (v := .int (I 3)) (C := RX2) (T := TX2) (N := 11) hx hb hts nX2_add_X2 hown hK hP 0 rfl rfl 3 (by decide) (hts _ mX2_add_f37) (fun _ h9 => h9) rfl dX2_add_52 ?_
    refine lv_iconst (v := (1 : Int32)) hx hb dX2_add_55 (by decide) ?_
    refine lv_iadd hx hb dX2_add_56 ?_
    refine va_put (D := (dC, dI)) (ci := 2) (v := .int ((I 3) + (1 : Int32))) (ty := .int) (C := RX2) (T := TX2) (N := 11) hx hb hts nX2_add_X2 tyX2 tyX2_ok nmX2 hown hK hP hD hS 0 rfl rfl 3 (by decide) (hts _ mX2_add_f37) (fun _ h9 => h9) rfl (by decide +kernel) rfl rfl (Nat.le_of_ble_eq_true rfl) dX2_add_57 (fun H locs hP hD hS => ?_)
    rw [wd2_I3] at hP hD
    exact w_vret (post := fun (u : (Nat → Int32) × (Nat → Nat → Int32)) => post u.1 u.2) (wf := fun u : (Nat → Int32) × (Nat → Nat → Int32) => wd2 cI h ad u.1 u.2) (u := (va_up I 3 ((I 3) + (1 : Int32)), va_up (va_up (va_up (va_up R 4 (upd (R 4) (I 3).toNatClampNeg p1)) 5 (upd (R 5) (I 3).toNatClampNeg p2)) 6 (upd (R 6) (I 3).toNatClampNeg p3)) 7 (upd (R 7) (I 3).toNatClampNeg p4))) hx hb hr hK hP hD hS hq dX2_add_60 hlocks
def zX2_anotherTouchesCut (post : Int32 → Prop) (I : Nat → Int32) (R : Nat → Nat → Int32) (X2 : Int32 → Prop) : Prop :=
  (∀ (x1 : Int32), ((((I 3) ≤ x1) → (post (0 : Int32))) ∧ ((¬ (I 3) ≤ x1) → (((¬ (((I 8) >>> (x1 &&& 31)) &&& (1 : Int32)) = 0) → (X2 (x1 + (1 : Int32)))) ∧ (((((I 8) >>> (x1 &&& 31)) &&& (1 : Int32)) = 0) → (vp_in x1 8 ∧ ((((R 10 2) < ((R 5 x1.toNatClampNeg) - (R 7 x1.toNatClampNeg))) → (X2 (x1 + (1 : Int32)))) ∧ ((¬ (R 10 2) < ((R 5 x1.toNatClampNeg) - (R 7 x1.toNatClampNeg))) → (((((R 5 x1.toNatClampNeg) + (R 7 x1.toNatClampNeg)) < (R 10 0)) → (X2 (x1 + (1 : Int32)))) ∧ ((¬ ((R 5 x1.toNatClampNeg) + (R 7 x1.toNatClampNeg)) < (R 10 0)) → ((((R 10 3) < ((R 6 x1.toNatClampNeg) - (R 7 x1.toNatClampNeg))) → (X2 (x1 + (1 : Int32)))) ∧ ((¬ (R 10 3) < ((R 6 x1.toNatClampNeg) - (R 7 x1.toNatClampNeg))) → (((((R 6 x1.toNatClampNeg) + (R 7 x1.toNatClampNeg)) < (R 10 1)) → (X2 (x1 + (1 : Int32)))) ∧ ((¬ ((R 6 x1.toNatClampNeg) + (R 7 x1.toNatClampNeg)) < (R 10 1)) → (post (1 : Int32))))))))))))))) → X2 x1)
def qX2_anotherTouchesCut_2 (post : Int32 → Prop) (I : Nat → Int32) (R : Nat → Nat → Int32) (x1 : Int32) : Prop := ∀ (X2 : Int32 → Prop), zX2_anotherTouchesCut post I R X2 → X2 x1
theorem kX2_anotherTouchesCut_2 {post : Int32 → Prop} {I : Nat → Int32} {R : Nat → Nat → Int32} {x1 : Int32} (h : (((I 3) ≤ x1) → (post (0 : Int32))) ∧ ((¬ (I 3) ≤ x1) → (((¬ (((I 8) >>> (x1 &&& 31)) &&& (1 : Int32)) = 0) → (qX2_anotherTouchesCut_2 post I R (x1 + (1 : Int32)))) ∧ (((((I 8) >>> (x1 &&& 31)) &&& (1 : Int32)) = 0) → (vp_in x1 8 ∧ ((((R 10 2) < ((R 5 x1.toNatClampNeg) - (R 7 x1.toNatClampNeg))) → (qX2_anotherTouchesCut_2 post I R (x1 + (1 : Int32)))) ∧ ((¬ (R 10 2) < ((R 5 x1.toNatClampNeg) - (R 7 x1.toNatClampNeg))) → (((((R 5 x1.toNatClampNeg) + (R 7 x1.toNatClampNeg)) < (R 10 0)) → (qX2_anotherTouchesCut_2 post I R (x1 + (1 : Int32)))) ∧ ((¬ ((R 5 x1.toNatClampNeg) + (R 7 x1.toNatClampNeg)) < (R 10 0)) → ((((R 10 3) < ((R 6 x1.toNatClampNeg) - (R 7 x1.toNatClampNeg))) → (qX2_anotherTouchesCut_2 post I R (x1 + (1 : Int32)))) ∧ ((¬ (R 10 3) < ((R 6 x1.toNatClampNeg) - (R 7 x1.toNatClampNeg))) → (((((R 6 x1.toNatClampNeg) + (R 7 x1.toNatClampNeg)) < (R 10 1)) → (qX2_anotherTouchesCut_2 post I R (x1 + (1 : Int32)))) ∧ ((¬ ((R 6 x1.toNatClampNeg) + (R 7 x1.toNatClampNeg)) < (R 10 1)) → (post (1 : Int32))))))))))))))) : qX2_anotherTouchesCut_2 post I R x1 := by
  intro Z2 hcl
  refine hcl x1 ?_
  refine ⟨fun c => ?_, fun c => ?_⟩
  · have h := h.1 c
    exact h
  · have h := h.2 c
    refine ⟨fun c => ?_, fun c => ?_⟩
    · have h := h.1 c
      exact h _ hcl
    · have h := h.2 c
      refine ⟨h.1, ?_⟩
      have h := h.2
      refine ⟨fun c => ?_, fun c => ?_⟩
      · have h := h.1 c
        exact h _ hcl
      · have h := h.2 c
        refine ⟨fun c => ?_, fun c => ?_⟩
        · have h := h.1 c
          exact h _ hcl
        · have h := h.2 c
          refine ⟨fun c => ?_, fun c => ?_⟩
          · have h := h.1 c
            exact h _ hcl
          · have h := h.2 c
            refine ⟨fun c => ?_, fun c => ?_⟩
            · have h := h.1 c
              exact h _ hcl
            · have h := h.2 c
              exact h
def qX2_anotherTouchesCut (post : Int32 → Prop) (I : Nat → Int32) (R : Nat → Nat → Int32) : Prop := qX2_anotherTouchesCut_2 post I R (0 : Int32)
theorem mX2_anotherTouchesCut_f37 : Cond.fieldLink RX2 37 "YearBook$Picture" "faces" "I" ∈ wsX2_anotherTouchesCut := by decide +kernel
theorem nX2_anotherTouchesCut_X2 : ∀ w ∈ u_ws RX2 TX2 11, w ∈ wsX2_anotherTouchesCut := by decide +kernel
theorem mX2_anotherTouchesCut_f40 : Cond.fieldLink RX2 40 "YearBook$Picture" "allowed" "I" ∈ wsX2_anotherTouchesCut := by decide +kernel
theorem mX2_anotherTouchesCut_f15 : Cond.fieldLink RX2 15 "YearBook$Picture" "xs" "[I" ∈ wsX2_anotherTouchesCut := by decide +kernel
theorem mX2_anotherTouchesCut_f21 : Cond.fieldLink RX2 21 "YearBook$Picture" "halves" "[I" ∈ wsX2_anotherTouchesCut := by decide +kernel
theorem mX2_anotherTouchesCut_f24 : Cond.fieldLink RX2 24 "YearBook$Picture" "cut" "[I" ∈ wsX2_anotherTouchesCut := by decide +kernel
theorem mX2_anotherTouchesCut_f18 : Cond.fieldLink RX2 18 "YearBook$Picture" "ys" "[I" ∈ wsX2_anotherTouchesCut := by decide +kernel
set_option maxHeartbeats 4000000 in
set_option maxRecDepth 100000 in
theorem tX2_anotherTouchesCut (l : Launch) (dC : Nat → ClassId) (dI : Nat → Nat → Nat) (cI : ClassId) (h : Nat) (ad : Nat → Nat)  (sz : Nat) (post : Int32 → Prop) (I : Nat → Int32) (R : Nat → Nat → Int32) (hq : qX2_anotherTouchesCut post I R) : Met l yX2_anotherTouchesCut wsX2_anotherTouchesCut ({ frames := 0, cells := 0, slots := 0, locals := 0 } : Room) (va_Pc [.ref h] (wPre (dC, dI) vwCl [(cI, .int)] (wd2 cI h ad I R) sz)) (va_Qi (fun r (_ : Unit) => post r ) (wAt (dC, dI) vwCl [(cI, .int)] (va_A (wd2 cI h ad I R) sz) (fun _ : Unit => wd2 cI h ad I R)) (va_A (wd2 cI h ad I R) sz)) 0 0 (va_A (wd2 cI h ad I R) sz) := by
  unfold qX2_anotherTouchesCut at hq
  refine Met.ofW (cc := cX2_anotherTouchesCut) (maxL := 2) (ret := (some .boolean)) (by decide) rfl ?_
  intro p e s m args below meth c s₁ B hml hv
  obtain ⟨rfl, hsz, hP, hK, hD0⟩ := hv
  have hx := B.exec
  have hb := B.bytes
  have hr := B.returns
  have hts := atoms_spec (ws := wsX2_anotherTouchesCut) B.pre
  have hown : s.vm.findClass RX2 = some m.cls := findClass_of_methodNamed B.named
  have hlocks := B.notSynchronized
  subst hsz
  have hD := hD0.self (sz := s.heap.size)
  generalize hAe : va_A (wd2 cI h ad I R) s.heap.size = A at hD ⊢
  have hA : ∀ q : Nat, s.heap.size ≤ q → A q := fun q h => by rw [← hAe]; exact Or.inr h
  have hS : va_S A s.heap s.heap [] := va_S.rf
  have hZ : zX2_anotherTouchesCut post I R
      (fun (x1 : Int32) => ∀ (H : Heap) (locs : List Loc) (ls : Array Slot), va_P (dC, dI) vwCl (wd2 cI h ad I R) H → va_D A (wd2 cI h ad I R) → va_S A s.heap H locs → lv_has ls 2 [(0, .ref h), (1, .int x1)] → W p l e (headSpec wsX2_anotherTouchesCut ({ frames := 0, cells := 0, slots := 0, locals := 0 } : Room)).room s m ([.ref h] : List Value).toArray below meth c H locs 0 0 (MQ below (va_Qi (fun r (_ : Unit) => post r ) (wAt (dC, dI) vwCl [(cI, .int)] A (fun _ : Unit => wd2 cI h ad I R)) A) ([.ref h] : List Value).toArray s 0 0 A) (F0 m 2 ls [])) := by
    unfold zX2_anotherTouchesCut
    intro x1 hq H locs ls hP hD hS hl
    refine lv_iload_n hx hb dX2_anotherTouchesCut_2 rfl (lv_at hl 1 rfl) ?_
    refine lv_aload_n hx hb dX2_anotherTouchesCut_3 rfl (lv_at hl 0 rfl) ?_
    refine va_get (D := (dC, dI)) (ci := 2) (v := .int (I 3)) (C := RX2) (T := TX2) (N := 11) hx hb hts nX2_anotherTouchesCut_X2 hown hK hP 0 rfl rfl 3 (by decide) (hts _ mX2_anotherTouchesCut_f37) (fun _ h9 => h9) rfl dX2_anotherTouchesCut_4 ?_
    refine lv_icmp_ge (tgt := 117) hx hb dX2_anotherTouchesCut_7 (by decide) (fun hc => ?_) (fun hc => ?_)
    · have hq := hq.1 hc
      refine lv_iconst (v := (0 : Int32)) hx hb dX2_anotherTouchesCut_117 (by decide) ?_
      exact w_zret (post := fun r (_ : Unit) => post r ) (wf := fun _ : Unit => wd2 cI h ad I R) (u := ()) hx hb hr rfl hK hP hD hS hq dX2_anotherTouchesCut_118 hlocks
    · have hq := hq.2 hc
      refine lv_aload_n hx hb dX2_anotherTouchesCut_10 rfl (lv_at hl 0 rfl) ?_
      refine va_get (D := (dC, dI)) (ci := 2) (v := .int (I 8)) (C := RX2) (T := TX2) (N := 11) hx hb hts nX2_anotherTouchesCut_X2 hown hK hP 0 rfl rfl 8 (by decide) (hts _ mX2_anotherTouchesCut_f40) (fun _ h9 => h9) rfl dX2_anotherTouchesCut_11 ?_
      refine lv_iload_n hx hb dX2_anotherTouchesCut_14 rfl (lv_at hl 1 rfl) ?_
      refine lv_ishr hx hb dX2_anotherTouchesCut_15 ?_
      refine lv_iconst (v := (1 : Int32)) hx hb dX2_anotherTouchesCut_16 (by decide) ?_
      refine lv_iand hx hb dX2_anotherTouchesCut_17 ?_
      refine lv_if_ne (tgt := 111) hx hb dX2_anotherTouchesCut_18 (by decide) (fun hc => ?_) (fun hc => ?_)
      · have hq := hq.1 hc
        refine lv_iinc (v := x1 + (1 : Int32)) (lv' := [(1, .int (x1 + (1 : Int32))), (0, .ref h)]) hx hb dX2_anotherTouchesCut_111 hl (k := 1) rfl rfl (by decide) rfl (fun ls hl => ?_)
        refine lv_goto (tgt := 2) hx hb dX2_anotherTouchesCut_114 (by decide) ?_
        exact hq _ _ ls hP hD hS (lv_sub hl [1, 0] rfl)
      · have hq := hq.2 hc
        refine lv_aload_n hx hb dX2_anotherTouchesCut_21 rfl (lv_at hl 0 rfl) ?_
        refine va_get (D := (dC, dI)) (ci := 2) (v := .ref (ad 5)) (C := RX2) (T := TX2) (N := 11) hx hb hts nX2_anotherTouchesCut_X2 hown hK hP 0 rfl rfl 5 (by decide) (hts _ mX2_anotherTouchesCut_f15) (fun _ h9 => h9) rfl dX2_anotherTouchesCut_22 ?_
        refine lv_iload_n hx hb dX2_anotherTouchesCut_25 rfl (lv_at hl 1 rfl) ?_
        obtain ⟨hi_1, hq⟩ := hq
        refine va_iald (f := R 5) hx hb hK hP 2 0 rfl rfl hi_1 dX2_anotherTouchesCut_26 ?_
        refine lv_aload_n hx hb dX2_anotherTouchesCut_27 rfl (lv_at hl 0 rfl) ?_
        refine va_get (D := (dC, dI)) (ci := 2) (v := .ref (ad 7)) (C := RX2) (T := TX2) (N := 11) hx hb hts nX2_anotherTouchesCut_X2 hown hK hP 0 rfl rfl 7 (by decide) (hts _ mX2_anotherTouchesCut_f21) (fun _ h9 => h9) rfl dX2_anotherTouchesCut_28 ?_
        refine lv_iload_n hx hb dX2_anotherTouchesCut_31 rfl (lv_at hl 1 rfl) ?_
        refine va_iald (f := R 7) hx hb hK hP 4 0 rfl rfl hi_1 dX2_anotherTouchesCut_32 ?_
        refine lv_isub hx hb dX2_anotherTouchesCut_33 ?_
        refine lv_aload_n hx hb dX2_anotherTouchesCut_34 rfl (lv_at hl 0 rfl) ?_
        refine va_get (D := (dC, dI)) (ci := 2) (v := .ref (ad 10)) (C := RX2) (T := TX2) (N := 11) hx hb hts nX2_anotherTouchesCut_X2 hown hK hP 0 rfl rfl 10 (by decide) (hts _ mX2_anotherTouchesCut_f24) (fun _ h9 => h9) rfl dX2_anotherTouchesCut_35 ?_
        refine lv_iconst (v := (2 : Int32)) hx hb dX2_anotherTouchesCut_38 (by decide) ?_
        refine va_ialdk (f := R 10) hx hb hK hP 5 0 rfl rfl 2 (by decide) (by unfold vp_in; decide) dX2_anotherTouchesCut_39 ?_
        refine lv_icmp_gt (tgt := 111) hx hb dX2_anotherTouchesCut_40 (by decide) (fun hc => ?_) (fun hc => ?_)
        · have hq := hq.1 hc
          refine lv_iinc (v := x1 + (1 : Int32)) (lv' := [(1, .int (x1 + (1 : Int32))), (0, .ref h)]) hx hb dX2_anotherTouchesCut_111 hl (k := 1) rfl rfl (by decide) rfl (fun ls hl => ?_)
          refine lv_goto (tgt := 2) hx hb dX2_anotherTouchesCut_114 (by decide) ?_
          exact hq _ _ ls hP hD hS (lv_sub hl [1, 0] rfl)
        · have hq := hq.2 hc
          refine lv_aload_n hx hb dX2_anotherTouchesCut_43 rfl (lv_at hl 0 rfl) ?_
          refine va_get (D := (dC, dI)) (ci := 2) (v := .ref (ad 5)) (C := RX2) (T := TX2) (N := 11) hx hb hts nX2_anotherTouchesCut_X2 hown hK hP 0 rfl rfl 5 (by decide) (hts _ mX2_anotherTouchesCut_f15) (fun _ h9 => h9) rfl dX2_anotherTouchesCut_44 ?_
          refine lv_iload_n hx hb dX2_anotherTouchesCut_47 rfl (lv_at hl 1 rfl) ?_
          refine va_iald (f := R 5) hx hb hK hP 2 0 rfl rfl hi_1 dX2_anotherTouchesCut_48 ?_
          refine lv_aload_n hx hb dX2_anotherTouchesCut_49 rfl (lv_at hl 0 rfl) ?_
          refine va_get (D := (dC, dI)) (ci := 2) (v := .ref (ad 7)) (C := RX2) (T := TX2) (N := 11) hx hb hts nX2_anotherTouchesCut_X2 hown hK hP 0 rfl rfl 7 (by decide) (hts _ mX2_anotherTouchesCut_f21) (fun _ h9 => h9) rfl dX2_anotherTouchesCut_50 ?_
          refine lv_iload_n hx hb dX2_anotherTouchesCut_53 rfl (lv_at hl 1 rfl) ?_
          refine va_iald (f := R 7) hx hb hK hP 4 0 rfl rfl hi_1 dX2_anotherTouchesCut_54 ?_
          refine lv_iadd hx hb dX2_anotherTouchesCut_55 ?_
          refine lv_aload_n hx hb dX2_anotherTouchesCut_56 rfl (lv_at hl 0 rfl) ?_
          refine va_get (D := (dC, dI)) (ci := 2) (v := .ref (ad 10)) (C := RX2) (T := TX2) (N := 11) hx hb hts nX2_anotherTouchesCut_X2 hown hK hP 0 rfl rfl 10 (by decide) (hts _ mX2_anotherTouchesCut_f24) (fun _ h9 => h9) rfl dX2_anotherTouchesCut_57 ?_
          refine lv_iconst (v := (0 : Int32)) hx hb dX2_anotherTouchesCut_60 (by decide) ?_
          refine va_ialdk (f := R 10) hx hb hK hP 5 0 rfl rfl 0 (by decide) (by unfold vp_in; decide) dX2_anotherTouchesCut_61 ?_
          refine lv_icmp_lt (tgt := 111) hx hb dX2_anotherTouchesCut_62 (by decide) (fun hc => ?_) (fun hc => ?_)
          · have hq := hq.1 hc
            refine lv_iinc (v := x1 + (1 : Int32)) (lv' := [(1, .int (x1 + (1 : Int32))), (0, .ref h)]) hx hb dX2_anotherTouchesCut_111 hl (k := 1) rfl rfl (by decide) rfl (fun ls hl => ?_)
            refine lv_goto (tgt := 2) hx hb dX2_anotherTouchesCut_114 (by decide) ?_
            exact hq _ _ ls hP hD hS (lv_sub hl [1, 0] rfl)
          · have hq := hq.2 hc
            refine lv_aload_n hx hb dX2_anotherTouchesCut_65 rfl (lv_at hl 0 rfl) ?_
            refine va_get (D := (dC, dI)) (ci := 2) (v := .ref (ad 6)) (C := RX2) (T := TX2) (N := 11) hx hb hts nX2_anotherTouchesCut_X2 hown hK hP 0 rfl rfl 6 (by decide) (hts _ mX2_anotherTouchesCut_f18) (fun _ h9 => h9) rfl dX2_anotherTouchesCut_66 ?_
            refine lv_iload_n hx hb dX2_anotherTouchesCut_69 rfl (lv_at hl 1 rfl) ?_
            refine va_iald (f := R 6) hx hb hK hP 3 0 rfl rfl hi_1 dX2_anotherTouchesCut_70 ?_
            refine lv_aload_n hx hb dX2_anotherTouchesCut_71 rfl (lv_at hl 0 rfl) ?_
            refine va_get (D := (dC, dI)) (ci := 2) (v := .ref (ad 7)) (C := RX2) (T := TX2) (N := 11) hx hb hts nX2_anotherTouchesCut_X2 hown hK hP 0 rfl rfl 7 (by decide) (hts _ mX2_anotherTouchesCut_f21) (fun _ h9 => h9) rfl dX2_anotherTouchesCut_72 ?_
            refine lv_iload_n hx hb dX2_anotherTouchesCut_75 rfl (lv_at hl 1 rfl) ?_
            refine va_iald (f := R 7) hx hb hK hP 4 0 rfl rfl hi_1 dX2_anotherTouchesCut_76 ?_
            refine lv_isub hx hb dX2_anotherTouchesCut_77 ?_
            refine lv_aload_n hx hb dX2_anotherTouchesCut_78 rfl (lv_at hl 0 rfl) ?_
            refine va_get (D := (dC, dI)) (ci := 2) (v := .ref (ad 10)) (C := RX2) (T := TX2) (N := 11) hx hb hts nX2_anotherTouchesCut_X2 hown hK hP 0 rfl rfl 10 (by decide) (hts _ mX2_anotherTouchesCut_f24) (fun _ h9 => h9) rfl dX2_anotherTouchesCut_79 ?_
            refine lv_iconst (v := (3 : Int32)) hx hb dX2_anotherTouchesCut_82 (by decide) ?_
            refine va_ialdk (f := R 10) hx hb hK hP 5 0 rfl rfl 3 (by decide) (by unfold vp_in; decide) dX2_anotherTouchesCut_83 ?_
            refine lv_icmp_gt (tgt := 111) hx hb dX2_anotherTouchesCut_84 (by decide) (fun hc => ?_) (fun hc => ?_)
            · have hq := hq.1 hc
              refine lv_iinc (v := x1 + (1 : Int32)) (lv' := [(1, .int (x1 + (1 : Int32))), (0, .ref h)]) hx hb dX2_anotherTouchesCut_111 hl (k := 1) rfl rfl (by decide) rfl (fun ls hl => ?_)
              refine lv_goto (tgt := 2) hx hb dX2_anotherTouchesCut_114 (by decide) ?_
              exact hq _ _ ls hP hD hS (lv_sub hl [1, 0] rfl)
            · have hq := hq.2 hc
              refine lv_aload_n hx hb dX2_anotherTouchesCut_87 rfl (lv_at hl 0 rfl) ?_
              refine va_get (D := (dC, dI)) (ci := 2) (v := .ref (ad 6)) (C := RX2) (T := TX2) (N := 11) hx hb hts nX2_anotherTouchesCut_X2 hown hK hP 0 rfl rfl 6 (by decide) (hts _ mX2_anotherTouchesCut_f18) (fun _ h9 => h9) rfl dX2_anotherTouchesCut_88 ?_
              refine lv_iload_n hx hb dX2_anotherTouchesCut_91 rfl (lv_at hl 1 rfl) ?_
              refine va_iald (f := R 6) hx hb hK hP 3 0 rfl rfl hi_1 dX2_anotherTouchesCut_92 ?_
              refine lv_aload_n hx hb dX2_anotherTouchesCut_93 rfl (lv_at hl 0 rfl) ?_
              refine va_get (D := (dC, dI)) (ci := 2) (v := .ref (ad 7)) (C := RX2) (T := TX2) (N := 11) hx hb hts nX2_anotherTouchesCut_X2 hown hK hP 0 rfl rfl 7 (by decide) (hts _ mX2_anotherTouchesCut_f21) (fun _ h9 => h9) rfl dX2_anotherTouchesCut_94 ?_
              refine lv_iload_n hx hb dX2_anotherTouchesCut_97 rfl (lv_at hl 1 rfl) ?_
              refine va_iald (f := R 7) hx hb hK hP 4 0 rfl rfl hi_1 dX2_anotherTouchesCut_98 ?_
              refine lv_iadd hx hb dX2_anotherTouchesCut_99 ?_
              refine lv_aload_n hx hb dX2_anotherTouchesCut_100 rfl (lv_at hl 0 rfl) ?_
              refine va_get (D := (dC, dI)) (ci := 2) (v := .ref (ad 10)) (C := RX2) (T := TX2) (N := 11) hx hb hts nX2_anotherTouchesCut_X2 hown hK hP 0 rfl rfl 10 (by decide) (hts _ mX2_anotherTouchesCut_f24) (fun _ h9 => h9) rfl dX2_anotherTouchesCut_101 ?_
              refine lv_iconst (v := (1 : Int32)) hx hb dX2_anotherTouchesCut_104 (by decide) ?_
              refine va_ialdk (f := R 10) hx hb hK hP 5 0 rfl rfl 1 (by decide) (by unfold vp_in; decide) dX2_anotherTouchesCut_105 ?_
              refine lv_icmp_lt (tgt := 111) hx hb dX2_anotherTouchesCut_106 (by decide) (fun hc => ?_) (fun hc => ?_)
              · have hq := hq.1 hc
                refine lv_iinc (v := x1 + (1 : Int32)) (lv' := [(1, .int (x1 + (1 : Int32))), (0, .ref h)]) hx hb dX2_anotherTouchesCut_111 hl (k := 1) rfl rfl (by decide) rfl (fun ls hl => ?_)
                refine lv_goto (tgt := 2) hx hb dX2_anotherTouchesCut_114 (by decide) ?_
                exact hq _ _ ls hP hD hS (lv_sub hl [1, 0] rfl)
              · have hq := hq.2 hc
                refine lv_iconst (v := (1 : Int32)) hx hb dX2_anotherTouchesCut_109 (by decide) ?_
                exact w_zret (post := fun r (_ : Unit) => post r ) (wf := fun _ : Unit => wd2 cI h ad I R) (u := ()) hx hb hr rfl hK hP hD hS hq dX2_anotherTouchesCut_110 hlocks
  have hl := lv_entry ([.ref h]) (n := 2) (Nat.le_of_ble_eq_true rfl)
  rw [lg_entry_eq]
  generalize (lg_sl ([.ref h]) ++ List.replicate (2 - (lg_sl ([.ref h])).length) Slot.unset).toArray = ls at hl ⊢
  have hl : lv_has ls 2 [(0, .ref h)] := hl
  refine lv_iconst (v := (0 : Int32)) hx hb dX2_anotherTouchesCut_0 (by decide) ?_
  refine lv_istore_n (lv' := [(1, .int (0 : Int32)), (0, .ref h)]) hx hb dX2_anotherTouchesCut_1 rfl hl (by decide) rfl (fun ls hl => ?_)
  exact hq _ hZ _ _ ls hP hD hS (lv_sub hl [1, 0] rfl)
def zX2_canHold (post : Int32 → Prop) (p1 : Int32) (I : Nat → Int32) (R : Nat → Nat → Int32) (X2 : Int32 → Prop) : Prop :=
  (∀ (x2 : Int32), ((((I 3) ≤ x2) → ((((8 : Int32) ≤ (I 3)) → (post (0 : Int32))) ∧ ((¬ (8 : Int32) ≤ (I 3)) → (post (1 : Int32))))) ∧ ((¬ (I 3) ≤ x2) → (vp_in x2 8 ∧ (((¬ (R 4 x2.toNatClampNeg) = p1) → (X2 (x2 + (1 : Int32)))) ∧ (((R 4 x2.toNatClampNeg) = p1) → (post (0 : Int32))))))) → X2 x2)
def qX2_canHold_2 (post : Int32 → Prop) (p1 : Int32) (I : Nat → Int32) (R : Nat → Nat → Int32) (x2 : Int32) : Prop := ∀ (X2 : Int32 → Prop), zX2_canHold post p1 I R X2 → X2 x2
theorem kX2_canHold_2 {post : Int32 → Prop} {p1 : Int32} {I : Nat → Int32} {R : Nat → Nat → Int32} {x2 : Int32} (h : (((I 3) ≤ x2) → ((((8 : Int32) ≤ (I 3)) → (post (0 : Int32))) ∧ ((¬ (8 : Int32) ≤ (I 3)) → (post (1 : Int32))))) ∧ ((¬ (I 3) ≤ x2) → (vp_in x2 8 ∧ (((¬ (R 4 x2.toNatClampNeg) = p1) → (qX2_canHold_2 post p1 I R (x2 + (1 : Int32)))) ∧ (((R 4 x2.toNatClampNeg) = p1) → (post (0 : Int32))))))) : qX2_canHold_2 post p1 I R x2 := by
  intro Z2 hcl
  refine hcl x2 ?_
  refine ⟨fun c => ?_, fun c => ?_⟩
  · have h := h.1 c
    refine ⟨fun c => ?_, fun c => ?_⟩
    · have h := h.1 c
      exact h
    · have h := h.2 c
      exact h
  · have h := h.2 c
    refine ⟨h.1, ?_⟩
    have h := h.2
    refine ⟨fun c => ?_, fun c => ?_⟩
    · have h := h.1 c
      exact h _ hcl
    · have h := h.2 c
      exact h
def qX2_canHold (post : Int32 → Prop) (p1 : Int32) (I : Nat → Int32) (R : Nat → Nat → Int32) : Prop := qX2_canHold_2 post p1 I R (0 : Int32)
theorem mX2_canHold_f37 : Cond.fieldLink RX2 37 "YearBook$Picture" "faces" "I" ∈ wsX2_canHold := by decide +kernel
theorem nX2_canHold_X2 : ∀ w ∈ u_ws RX2 TX2 11, w ∈ wsX2_canHold := by decide +kernel
theorem mX2_canHold_f9 : Cond.fieldLink RX2 9 "YearBook$Picture" "who" "[I" ∈ wsX2_canHold := by decide +kernel
set_option maxHeartbeats 4000000 in
set_option maxRecDepth 100000 in
theorem tX2_canHold (l : Launch) (dC : Nat → ClassId) (dI : Nat → Nat → Nat) (cI : ClassId) (h : Nat) (ad : Nat → Nat)  (sz : Nat) (post : Int32 → Prop) (p1 : Int32) (I : Nat → Int32) (R : Nat → Nat → Int32) (hq : qX2_canHold post p1 I R) : Met l yX2_canHold wsX2_canHold ({ frames := 0, cells := 0, slots := 0, locals := 0 } : Room) (va_Pc [.ref h, .int p1] (wPre (dC, dI) vwCl [(cI, .int)] (wd2 cI h ad I R) sz)) (va_Qi (fun r (_ : Unit) => post r ) (wAt (dC, dI) vwCl [(cI, .int)] (va_A (wd2 cI h ad I R) sz) (fun _ : Unit => wd2 cI h ad I R)) (va_A (wd2 cI h ad I R) sz)) 0 0 (va_A (wd2 cI h ad I R) sz) := by
  unfold qX2_canHold at hq
  refine Met.ofW (cc := cX2_canHold) (maxL := 3) (ret := (some .boolean)) (by decide) rfl ?_
  intro p e s m args below meth c s₁ B hml hv
  obtain ⟨rfl, hsz, hP, hK, hD0⟩ := hv
  have hx := B.exec
  have hb := B.bytes
  have hr := B.returns
  have hts := atoms_spec (ws := wsX2_canHold) B.pre
  have hown : s.vm.findClass RX2 = some m.cls := findClass_of_methodNamed B.named
  have hlocks := B.notSynchronized
  subst hsz
  have hD := hD0.self (sz := s.heap.size)
  generalize hAe : va_A (wd2 cI h ad I R) s.heap.size = A at hD ⊢
  have hA : ∀ q : Nat, s.heap.size ≤ q → A q := fun q h => by rw [← hAe]; exact Or.inr h
  have hS : va_S A s.heap s.heap [] := va_S.rf
  have hZ : zX2_canHold post p1 I R
      (fun (x2 : Int32) => ∀ (H : Heap) (locs : List Loc) (ls : Array Slot), va_P (dC, dI) vwCl (wd2 cI h ad I R) H → va_D A (wd2 cI h ad I R) → va_S A s.heap H locs → lv_has ls 3 [(0, .ref h), (1, .int p1), (2, .int x2)] → W p l e (headSpec wsX2_canHold ({ frames := 0, cells := 0, slots := 0, locals := 0 } : Room)).room s m ([.ref h, .int p1] : List Value).toArray below meth c H locs 0 0 (MQ below (va_Qi (fun r (_ : Unit) => post r ) (wAt (dC, dI) vwCl [(cI, .int)] A (fun _ : Unit => wd2 cI h ad I R)) A) ([.ref h, .int p1] : List Value).toArray s 0 0 A) (F0 m 2 ls [])) := by
    unfold zX2_canHold
    intro x2 hq H locs ls hP hD hS hl
    refine lv_iload_n hx hb dX2_canHold_2 rfl (lv_at hl 2 rfl) ?_
    refine lv_aload_n hx hb dX2_canHold_3 rfl (lv_at hl 0 rfl) ?_
    refine va_get (D := (dC, dI)) (ci := 2) (v := .int (I 3)) (C := RX2) (T := TX2) (N := 11) hx hb hts nX2_canHold_X2 hown hK hP 0 rfl rfl 3 (by decide) (hts _ mX2_canHold_f37) (fun _ h9 => h9) rfl dX2_canHold_4 ?_
    refine lv_icmp_ge (tgt := 28) hx hb dX2_canHold_7 (by decide) (fun hc => ?_) (fun hc => ?_)
    · have hq := hq.1 hc
      refine lv_aload_n hx hb dX2_canHold_28 rfl (lv_at hl 0 rfl) ?_
      refine va_get (D := (dC, dI)) (ci := 2) (v := .int (I 3)) (C := RX2) (T := TX2) (N := 11) hx hb hts nX2_canHold_X2 hown hK hP 0 rfl rfl 3 (by decide) (hts _ mX2_canHold_f37) (fun _ h9 => h9) rfl dX2_canHold_29 ?_
      refine lv_bipush (v := (8 : Int32)) hx hb dX2_canHold_32 (by decide) ?_
      refine lv_icmp_ge (tgt := 41) hx hb dX2_canHold_34 (by decide) (fun hc => ?_) (fun hc => ?_)
      · have hq := hq.1 hc
        refine lv_iconst (v := (0 : Int32)) hx hb dX2_canHold_41 (by decide) ?_
        exact w_zret (post := fun r (_ : Unit) => post r ) (wf := fun _ : Unit => wd2 cI h ad I R) (u := ()) hx hb hr rfl hK hP hD hS hq dX2_canHold_42 hlocks
      · have hq := hq.2 hc
        refine lv_iconst (v := (1 : Int32)) hx hb dX2_canHold_37 (by decide) ?_
        refine lv_goto (tgt := 42) hx hb dX2_canHold_38 (by decide) ?_
        exact w_zret (post := fun r (_ : Unit) => post r ) (wf := fun _ : Unit => wd2 cI h ad I R) (u := ()) hx hb hr rfl hK hP hD hS hq dX2_canHold_42 hlocks
    · have hq := hq.2 hc
      refine lv_aload_n hx hb dX2_canHold_10 rfl (lv_at hl 0 rfl) ?_
      refine va_get (D := (dC, dI)) (ci := 2) (v := .ref (ad 4)) (C := RX2) (T := TX2) (N := 11) hx hb hts nX2_canHold_X2 hown hK hP 0 rfl rfl 4 (by decide) (hts _ mX2_canHold_f9) (fun _ h9 => h9) rfl dX2_canHold_11 ?_
      refine lv_iload_n hx hb dX2_canHold_14 rfl (lv_at hl 2 rfl) ?_
      obtain ⟨hi_1, hq⟩ := hq
      refine va_iald (f := R 4) hx hb hK hP 1 0 rfl rfl hi_1 dX2_canHold_15 ?_
      refine lv_iload_n hx hb dX2_canHold_16 rfl (lv_at hl 1 rfl) ?_
      refine lv_icmp_ne (tgt := 22) hx hb dX2_canHold_17 (by decide) (fun hc => ?_) (fun hc => ?_)
      · have hq := hq.1 hc
        refine lv_iinc (v := x2 + (1 : Int32)) (lv' := [(2, .int (x2 + (1 : Int32))), (0, .ref h), (1, .int p1)]) hx hb dX2_canHold_22 hl (k := 2) rfl rfl (by decide) rfl (fun ls hl => ?_)
        refine lv_goto (tgt := 2) hx hb dX2_canHold_25 (by decide) ?_
        exact hq _ _ ls hP hD hS (lv_sub hl [1, 2, 0] rfl)
      · have hq := hq.2 hc
        refine lv_iconst (v := (0 : Int32)) hx hb dX2_canHold_20 (by decide) ?_
        exact w_zret (post := fun r (_ : Unit) => post r ) (wf := fun _ : Unit => wd2 cI h ad I R) (u := ()) hx hb hr rfl hK hP hD hS hq dX2_canHold_21 hlocks
  have hl := lv_entry ([.ref h, .int p1]) (n := 3) (Nat.le_of_ble_eq_true rfl)
  rw [lg_entry_eq]
  generalize (lg_sl ([.ref h, .int p1]) ++ List.replicate (3 - (lg_sl ([.ref h, .int p1])).length) Slot.unset).toArray = ls at hl ⊢
  have hl : lv_has ls 3 [(0, .ref h), (1, .int p1)] := hl
  refine lv_iconst (v := (0 : Int32)) hx hb dX2_canHold_0 (by decide) ?_
  refine lv_istore_n (lv' := [(2, .int (0 : Int32)), (0, .ref h), (1, .int p1)]) hx hb dX2_canHold_1 rfl hl (by decide) rfl (fun ls hl => ?_)
  exact hq _ hZ _ _ ls hP hD hS (lv_sub hl [1, 2, 0] rfl)
def zX2_leftOf (post : Int32 → Prop) (p1 : Int32) (p2 : Int32) (I : Nat → Int32) (R : Nat → Nat → Int32) (X5 : Int32 → Int32 → Prop) : Prop :=
  (∀ (x3 : Int32) (x4 : Int32), ((((I 3) ≤ x4) → (post x3)) ∧ ((¬ (I 3) ≤ x4) → (((((p2 >>> (x4 &&& 31)) &&& (1 : Int32)) = 0) → (X5 x3 (x4 + (1 : Int32)))) ∧ ((¬ ((p2 >>> (x4 &&& 31)) &&& (1 : Int32)) = 0) → (vp_in x4 8 ∧ (vp_in p1 8 ∧ ((((R 5 x4.toNatClampNeg) < (R 5 p1.toNatClampNeg)) → (X5 (x3 + (1 : Int32)) (x4 + (1 : Int32)))) ∧ ((¬ (R 5 x4.toNatClampNeg) < (R 5 p1.toNatClampNeg)) → (((¬ (R 5 x4.toNatClampNeg) = (R 5 p1.toNatClampNeg)) → (X5 x3 (x4 + (1 : Int32)))) ∧ (((R 5 x4.toNatClampNeg) = (R 5 p1.toNatClampNeg)) → ((((R 4 p1.toNatClampNeg) ≤ (R 4 x4.toNatClampNeg)) → (X5 x3 (x4 + (1 : Int32)))) ∧ ((¬ (R 4 p1.toNatClampNeg) ≤ (R 4 x4.toNatClampNeg)) → (X5 (x3 + (1 : Int32)) (x4 + (1 : Int32))))))))))))))) → X5 x3 x4)
def qX2_leftOf_5 (post : Int32 → Prop) (p1 : Int32) (p2 : Int32) (I : Nat → Int32) (R : Nat → Nat → Int32) (x3 : Int32) (x4 : Int32) : Prop := ∀ (X5 : Int32 → Int32 → Prop), zX2_leftOf post p1 p2 I R X5 → X5 x3 x4
theorem kX2_leftOf_5 {post : Int32 → Prop} {p1 : Int32} {p2 : Int32} {I : Nat → Int32} {R : Nat → Nat → Int32} {x3 : Int32} {x4 : Int32} (h : (((I 3) ≤ x4) → (post x3)) ∧ ((¬ (I 3) ≤ x4) → (((((p2 >>> (x4 &&& 31)) &&& (1 : Int32)) = 0) → (qX2_leftOf_5 post p1 p2 I R x3 (x4 + (1 : Int32)))) ∧ ((¬ ((p2 >>> (x4 &&& 31)) &&& (1 : Int32)) = 0) → (vp_in x4 8 ∧ (vp_in p1 8 ∧ ((((R 5 x4.toNatClampNeg) < (R 5 p1.toNatClampNeg)) → (qX2_leftOf_5 post p1 p2 I R (x3 + (1 : Int32)) (x4 + (1 : Int32)))) ∧ ((¬ (R 5 x4.toNatClampNeg) < (R 5 p1.toNatClampNeg)) → (((¬ (R 5 x4.toNatClampNeg) = (R 5 p1.toNatClampNeg)) → (qX2_leftOf_5 post p1 p2 I R x3 (x4 + (1 : Int32)))) ∧ (((R 5 x4.toNatClampNeg) = (R 5 p1.toNatClampNeg)) → ((((R 4 p1.toNatClampNeg) ≤ (R 4 x4.toNatClampNeg)) → (qX2_leftOf_5 post p1 p2 I R x3 (x4 + (1 : Int32)))) ∧ ((¬ (R 4 p1.toNatClampNeg) ≤ (R 4 x4.toNatClampNeg)) → (qX2_leftOf_5 post p1 p2 I R (x3 + (1 : Int32)) (x4 + (1 : Int32))))))))))))))) : qX2_leftOf_5 post p1 p2 I R x3 x4 := by
  intro Z5 hcl
  refine hcl x3 x4 ?_
  refine ⟨fun c => ?_, fun c => ?_⟩
  · have h := h.1 c
    exact h
  · have h := h.2 c
    refine ⟨fun c => ?_, fun c => ?_⟩
    · have h := h.1 c
      exact h _ hcl
    · have h := h.2 c
      refine ⟨h.1, ?_⟩
      have h := h.2
      refine ⟨h.1, ?_⟩
      have h := h.2
      refine ⟨fun c => ?_, fun c => ?_⟩
      · have h := h.1 c
        exact h _ hcl
      · have h := h.2 c
        refine ⟨fun c => ?_, fun c => ?_⟩
        · have h := h.1 c
          exact h _ hcl
        · have h := h.2 c
          refine ⟨fun c => ?_, fun c => ?_⟩
          · have h := h.1 c
            exact h _ hcl
          · have h := h.2 c
            exact h _ hcl
def qX2_leftOf (post : Int32 → Prop) (p1 : Int32) (p2 : Int32) (I : Nat → Int32) (R : Nat → Nat → Int32) : Prop := qX2_leftOf_5 post p1 p2 I R (0 : Int32) (0 : Int32)
theorem mX2_leftOf_f37 : Cond.fieldLink RX2 37 "YearBook$Picture" "faces" "I" ∈ wsX2_leftOf := by decide +kernel
theorem nX2_leftOf_X2 : ∀ w ∈ u_ws RX2 TX2 11, w ∈ wsX2_leftOf := by decide +kernel
theorem mX2_leftOf_f15 : Cond.fieldLink RX2 15 "YearBook$Picture" "xs" "[I" ∈ wsX2_leftOf := by decide +kernel
theorem mX2_leftOf_f9 : Cond.fieldLink RX2 9 "YearBook$Picture" "who" "[I" ∈ wsX2_leftOf := by decide +kernel
set_option maxHeartbeats 4000000 in
set_option maxRecDepth 100000 in
theorem tX2_leftOf (l : Launch) (dC : Nat → ClassId) (dI : Nat → Nat → Nat) (cI : ClassId) (h : Nat) (ad : Nat → Nat)  (sz : Nat) (post : Int32 → Prop) (p1 : Int32) (p2 : Int32) (I : Nat → Int32) (R : Nat → Nat → Int32) (hq : qX2_leftOf post p1 p2 I R) : Met l yX2_leftOf wsX2_leftOf ({ frames := 0, cells := 0, slots := 0, locals := 0 } : Room) (va_Pc [.ref h, .int p1, .int p2] (wPre (dC, dI) vwCl [(cI, .int)] (wd2 cI h ad I R) sz)) (va_Qi (fun r (_ : Unit) => post r ) (wAt (dC, dI) vwCl [(cI, .int)] (va_A (wd2 cI h ad I R) sz) (fun _ : Unit => wd2 cI h ad I R)) (va_A (wd2 cI h ad I R) sz)) 0 0 (va_A (wd2 cI h ad I R) sz) := by
  unfold qX2_leftOf at hq
  refine Met.ofW (cc := cX2_leftOf) (maxL := 5) (ret := (some .int)) (by decide) rfl ?_
  intro p e s m args below meth c s₁ B hml hv
  obtain ⟨rfl, hsz, hP, hK, hD0⟩ := hv
  have hx := B.exec
  have hb := B.bytes
  have hr := B.returns
  have hts := atoms_spec (ws := wsX2_leftOf) B.pre
  have hown : s.vm.findClass RX2 = some m.cls := findClass_of_methodNamed B.named
  have hlocks := B.notSynchronized
  subst hsz
  have hD := hD0.self (sz := s.heap.size)
  generalize hAe : va_A (wd2 cI h ad I R) s.heap.size = A at hD ⊢
  have hA : ∀ q : Nat, s.heap.size ≤ q → A q := fun q h => by rw [← hAe]; exact Or.inr h
  have hS : va_S A s.heap s.heap [] := va_S.rf
  have hZ : zX2_leftOf post p1 p2 I R
      (fun (x3 : Int32) (x4 : Int32) => ∀ (H : Heap) (locs : List Loc) (ls : Array Slot), va_P (dC, dI) vwCl (wd2 cI h ad I R) H → va_D A (wd2 cI h ad I R) → va_S A s.heap H locs → lv_has ls 5 [(0, .ref h), (1, .int p1), (2, .int p2), (3, .int x3), (4, .int x4)] → W p l e (headSpec wsX2_leftOf ({ frames := 0, cells := 0, slots := 0, locals := 0 } : Room)).room s m ([.ref h, .int p1, .int p2] : List Value).toArray below meth c H locs 0 0 (MQ below (va_Qi (fun r (_ : Unit) => post r ) (wAt (dC, dI) vwCl [(cI, .int)] A (fun _ : Unit => wd2 cI h ad I R)) A) ([.ref h, .int p1, .int p2] : List Value).toArray s 0 0 A) (F0 m 5 ls [])) := by
    unfold zX2_leftOf
    intro x3 x4 hq H locs ls hP hD hS hl
    refine lv_iload hx hb dX2_leftOf_5 (lv_at hl 4 rfl) ?_
    refine lv_aload_n hx hb dX2_leftOf_7 rfl (lv_at hl 0 rfl) ?_
    refine va_get (D := (dC, dI)) (ci := 2) (v := .int (I 3)) (C := RX2) (T := TX2) (N := 11) hx hb hts nX2_leftOf_X2 hown hK hP 0 rfl rfl 3 (by decide) (hts _ mX2_leftOf_f37) (fun _ h9 => h9) rfl dX2_leftOf_8 ?_
    refine lv_icmp_ge (tgt := 80) hx hb dX2_leftOf_11 (by decide) (fun hc => ?_) (fun hc => ?_)
    · have hq := hq.1 hc
      refine lv_iload_n hx hb dX2_leftOf_80 rfl (lv_at hl 3 rfl) ?_
      exact w_iret (post := fun r (_ : Unit) => post r ) (wf := fun _ : Unit => wd2 cI h ad I R) (u := ()) hx hb hr hK hP hD hS hq dX2_leftOf_81 hlocks
    · have hq := hq.2 hc
      refine lv_iload_n hx hb dX2_leftOf_14 rfl (lv_at hl 2 rfl) ?_
      refine lv_iload hx hb dX2_leftOf_15 (lv_at hl 4 rfl) ?_
      refine lv_ishr hx hb dX2_leftOf_17 ?_
      refine lv_iconst (v := (1 : Int32)) hx hb dX2_leftOf_18 (by decide) ?_
      refine lv_iand hx hb dX2_leftOf_19 ?_
      refine lv_if_eq (tgt := 74) hx hb dX2_leftOf_20 (by decide) (fun hc => ?_) (fun hc => ?_)
      · have hq := hq.1 hc
        refine lv_iinc (v := x4 + (1 : Int32)) (lv' := [(4, .int (x4 + (1 : Int32))), (0, .ref h), (1, .int p1), (2, .int p2), (3, .int x3)]) hx hb dX2_leftOf_74 hl (k := 4) rfl rfl (by decide) rfl (fun ls hl => ?_)
        refine lv_goto (tgt := 5) hx hb dX2_leftOf_77 (by decide) ?_
        exact hq _ _ ls hP hD hS (lv_sub hl [1, 2, 3, 4, 0] rfl)
      · have hq := hq.2 hc
        refine lv_aload_n hx hb dX2_leftOf_23 rfl (lv_at hl 0 rfl) ?_
        refine va_get (D := (dC, dI)) (ci := 2) (v := .ref (ad 5)) (C := RX2) (T := TX2) (N := 11) hx hb hts nX2_leftOf_X2 hown hK hP 0 rfl rfl 5 (by decide) (hts _ mX2_leftOf_f15) (fun _ h9 => h9) rfl dX2_leftOf_24 ?_
        refine lv_iload hx hb dX2_leftOf_27 (lv_at hl 4 rfl) ?_
        obtain ⟨hi_1, hq⟩ := hq
        refine va_iald (f := R 5) hx hb hK hP 2 0 rfl rfl hi_1 dX2_leftOf_29 ?_
        refine lv_aload_n hx hb dX2_leftOf_30 rfl (lv_at hl 0 rfl) ?_
        refine va_get (D := (dC, dI)) (ci := 2) (v := .ref (ad 5)) (C := RX2) (T := TX2) (N := 11) hx hb hts nX2_leftOf_X2 hown hK hP 0 rfl rfl 5 (by decide) (hts _ mX2_leftOf_f15) (fun _ h9 => h9) rfl dX2_leftOf_31 ?_
        refine lv_iload_n hx hb dX2_leftOf_34 rfl (lv_at hl 1 rfl) ?_
        obtain ⟨hi_2, hq⟩ := hq
        refine va_iald (f := R 5) hx hb hK hP 2 0 rfl rfl hi_2 dX2_leftOf_35 ?_
        refine lv_icmp_lt (tgt := 71) hx hb dX2_leftOf_36 (by decide) (fun hc => ?_) (fun hc => ?_)
        · have hq := hq.1 hc
          refine lv_iinc (v := x3 + (1 : Int32)) (lv' := [(3, .int (x3 + (1 : Int32))), (0, .ref h), (1, .int p1), (2, .int p2), (4, .int x4)]) hx hb dX2_leftOf_71 hl (k := 3) rfl rfl (by decide) rfl (fun ls hl => ?_)
          refine lv_iinc (v := x4 + (1 : Int32)) (lv' := [(4, .int (x4 + (1 : Int32))), (3, .int (x3 + (1 : Int32))), (0, .ref h), (1, .int p1), (2, .int p2)]) hx hb dX2_leftOf_74 hl (k := 4) rfl rfl (by decide) rfl (fun ls hl => ?_)
          refine lv_goto (tgt := 5) hx hb dX2_leftOf_77 (by decide) ?_
          exact hq _ _ ls hP hD hS (lv_sub hl [2, 3, 4, 1, 0] rfl)
        · have hq := hq.2 hc
          refine lv_aload_n hx hb dX2_leftOf_39 rfl (lv_at hl 0 rfl) ?_
          refine va_get (D := (dC, dI)) (ci := 2) (v := .ref (ad 5)) (C := RX2) (T := TX2) (N := 11) hx hb hts nX2_leftOf_X2 hown hK hP 0 rfl rfl 5 (by decide) (hts _ mX2_leftOf_f15) (fun _ h9 => h9) rfl dX2_leftOf_40 ?_
          refine lv_iload hx hb dX2_leftOf_43 (lv_at hl 4 rfl) ?_
          refine va_iald (f := R 5) hx hb hK hP 2 0 rfl rfl hi_1 dX2_leftOf_45 ?_
          refine lv_aload_n hx hb dX2_leftOf_46 rfl (lv_at hl 0 rfl) ?_
          refine va_get (D := (dC, dI)) (ci := 2) (v := .ref (ad 5)) (C := RX2) (T := TX2) (N := 11) hx hb hts nX2_leftOf_X2 hown hK hP 0 rfl rfl 5 (by decide) (hts _ mX2_leftOf_f15) (fun _ h9 => h9) rfl dX2_leftOf_47 ?_
          refine lv_iload_n hx hb dX2_leftOf_50 rfl (lv_at hl 1 rfl) ?_
          refine va_iald (f := R 5) hx hb hK hP 2 0 rfl rfl hi_2 dX2_leftOf_51 ?_
          refine lv_icmp_ne (tgt := 74) hx hb dX2_leftOf_52 (by decide) (fun hc => ?_) (fun hc => ?_)
          · have hq := hq.1 hc
            refine lv_iinc (v := x4 + (1 : Int32)) (lv' := [(4, .int (x4 + (1 : Int32))), (0, .ref h), (1, .int p1), (2, .int p2), (3, .int x3)]) hx hb dX2_leftOf_74 hl (k := 4) rfl rfl (by decide) rfl (fun ls hl => ?_)
            refine lv_goto (tgt := 5) hx hb dX2_leftOf_77 (by decide) ?_
            exact hq _ _ ls hP hD hS (lv_sub hl [1, 2, 3, 4, 0] rfl)
          · have hq := hq.2 hc
            refine lv_aload_n hx hb dX2_leftOf_55 rfl (lv_at hl 0 rfl) ?_
            refine va_get (D := (dC, dI)) (ci := 2) (v := .ref (ad 4)) (C := RX2) (T := TX2) (N := 11) hx hb hts nX2_leftOf_X2 hown hK hP 0 rfl rfl 4 (by decide) (hts _ mX2_leftOf_f9) (fun _ h9 => h9) rfl dX2_leftOf_56 ?_
            refine lv_iload hx hb dX2_leftOf_59 (lv_at hl 4 rfl) ?_
            refine va_iald (f := R 4) hx hb hK hP 1 0 rfl rfl hi_1 dX2_leftOf_61 ?_
            refine lv_aload_n hx hb dX2_leftOf_62 rfl (lv_at hl 0 rfl) ?_
            refine va_get (D := (dC, dI)) (ci := 2) (v := .ref (ad 4)) (C := RX2) (T := TX2) (N := 11) hx hb hts nX2_leftOf_X2 hown hK hP 0 rfl rfl 4 (by decide) (hts _ mX2_leftOf_f9) (fun _ h9 => h9) rfl dX2_leftOf_63 ?_
            refine lv_iload_n hx hb dX2_leftOf_66 rfl (lv_at hl 1 rfl) ?_
            refine va_iald (f := R 4) hx hb hK hP 1 0 rfl rfl hi_2 dX2_leftOf_67 ?_
            refine lv_icmp_ge (tgt := 74) hx hb dX2_leftOf_68 (by decide) (fun hc => ?_) (fun hc => ?_)
            · have hq := hq.1 hc
              refine lv_iinc (v := x4 + (1 : Int32)) (lv' := [(4, .int (x4 + (1 : Int32))), (0, .ref h), (1, .int p1), (2, .int p2), (3, .int x3)]) hx hb dX2_leftOf_74 hl (k := 4) rfl rfl (by decide) rfl (fun ls hl => ?_)
              refine lv_goto (tgt := 5) hx hb dX2_leftOf_77 (by decide) ?_
              exact hq _ _ ls hP hD hS (lv_sub hl [1, 2, 3, 4, 0] rfl)
            · have hq := hq.2 hc
              refine lv_iinc (v := x3 + (1 : Int32)) (lv' := [(3, .int (x3 + (1 : Int32))), (0, .ref h), (1, .int p1), (2, .int p2), (4, .int x4)]) hx hb dX2_leftOf_71 hl (k := 3) rfl rfl (by decide) rfl (fun ls hl => ?_)
              refine lv_iinc (v := x4 + (1 : Int32)) (lv' := [(4, .int (x4 + (1 : Int32))), (3, .int (x3 + (1 : Int32))), (0, .ref h), (1, .int p1), (2, .int p2)]) hx hb dX2_leftOf_74 hl (k := 4) rfl rfl (by decide) rfl (fun ls hl => ?_)
              refine lv_goto (tgt := 5) hx hb dX2_leftOf_77 (by decide) ?_
              exact hq _ _ ls hP hD hS (lv_sub hl [2, 3, 4, 1, 0] rfl)
  have hl := lv_entry ([.ref h, .int p1, .int p2]) (n := 5) (Nat.le_of_ble_eq_true rfl)
  rw [lg_entry_eq]
  generalize (lg_sl ([.ref h, .int p1, .int p2]) ++ List.replicate (5 - (lg_sl ([.ref h, .int p1, .int p2])).length) Slot.unset).toArray = ls at hl ⊢
  have hl : lv_has ls 5 [(0, .ref h), (1, .int p1), (2, .int p2)] := hl
  refine lv_iconst (v := (0 : Int32)) hx hb dX2_leftOf_0 (by decide) ?_
  refine lv_istore_n (lv' := [(3, .int (0 : Int32)), (0, .ref h), (1, .int p1), (2, .int p2)]) hx hb dX2_leftOf_1 rfl hl (by decide) rfl (fun ls hl => ?_)
  refine lv_iconst (v := (0 : Int32)) hx hb dX2_leftOf_2 (by decide) ?_
  refine lv_istore (lv' := [(4, .int (0 : Int32)), (3, .int (0 : Int32)), (0, .ref h), (1, .int p1), (2, .int p2)]) hx hb dX2_leftOf_3 hl (by decide) rfl (fun ls hl => ?_)
  exact hq _ hZ _ _ ls hP hD hS (lv_sub hl [2, 3, 4, 1, 0] rfl)
def zX2_childInRow (post : Int32 → Prop) (p1 : Int32) (p2 : Int32) (I : Nat → Int32) (R : Nat → Nat → Int32) (X2 : Int32 → Prop) : Prop :=
  (∀ (x3 : Int32), ((((I 3) ≤ x3) → (post (-1 : Int32))) ∧ ((¬ (I 3) ≤ x3) → (((((p1 >>> (x3 &&& 31)) &&& (1 : Int32)) = 0) → (X2 (x3 + (1 : Int32)))) ∧ ((¬ ((p1 >>> (x3 &&& 31)) &&& (1 : Int32)) = 0) → (∃ Pc_1 : Int32 → Prop, qX2_leftOf Pc_1 x3 p1 I R ∧ (∀ (rc_1 : Int32), Pc_1 rc_1 → (((¬ rc_1 = p2) → (X2 (x3 + (1 : Int32)))) ∧ ((rc_1 = p2) → (vp_in x3 8 ∧ (post (R 4 x3.toNatClampNeg))))))))))) → X2 x3)
def qX2_childInRow_2 (post : Int32 → Prop) (p1 : Int32) (p2 : Int32) (I : Nat → Int32) (R : Nat → Nat → Int32) (x3 : Int32) : Prop := ∀ (X2 : Int32 → Prop), zX2_childInRow post p1 p2 I R X2 → X2 x3
theorem kX2_childInRow_2 {post : Int32 → Prop} {p1 : Int32} {p2 : Int32} {I : Nat → Int32} {R : Nat → Nat → Int32} {x3 : Int32} (h : (((I 3) ≤ x3) → (post (-1 : Int32))) ∧ ((¬ (I 3) ≤ x3) → (((((p1 >>> (x3 &&& 31)) &&& (1 : Int32)) = 0) → (qX2_childInRow_2 post p1 p2 I R (x3 + (1 : Int32)))) ∧ ((¬ ((p1 >>> (x3 &&& 31)) &&& (1 : Int32)) = 0) → (∃ Pc_1 : Int32 → Prop, qX2_leftOf Pc_1 x3 p1 I R ∧ (∀ (rc_1 : Int32), Pc_1 rc_1 → (((¬ rc_1 = p2) → (qX2_childInRow_2 post p1 p2 I R (x3 + (1 : Int32)))) ∧ ((rc_1 = p2) → (vp_in x3 8 ∧ (post (R 4 x3.toNatClampNeg))))))))))) : qX2_childInRow_2 post p1 p2 I R x3 := by
  intro Z2 hcl
  refine hcl x3 ?_
  refine ⟨fun c => ?_, fun c => ?_⟩
  · have h := h.1 c
    exact h
  · have h := h.2 c
    refine ⟨fun c => ?_, fun c => ?_⟩
    · have h := h.1 c
      exact h _ hcl
    · have h := h.2 c
      obtain ⟨P, h1, h2⟩ := h
      refine ⟨P, h1, fun b0 hp => ?_⟩
      have h := h2 b0 hp
      refine ⟨fun c => ?_, fun c => ?_⟩
      · have h := h.1 c
        exact h _ hcl
      · have h := h.2 c
        refine ⟨h.1, ?_⟩
        have h := h.2
        exact h
def qX2_childInRow (post : Int32 → Prop) (p1 : Int32) (p2 : Int32) (I : Nat → Int32) (R : Nat → Nat → Int32) : Prop := qX2_childInRow_2 post p1 p2 I R (0 : Int32)
theorem mX2_childInRow_f37 : Cond.fieldLink RX2 37 "YearBook$Picture" "faces" "I" ∈ wsX2_childInRow := by decide +kernel
theorem nX2_childInRow_X2 : ∀ w ∈ u_ws RX2 TX2 11, w ∈ wsX2_childInRow := by decide +kernel
theorem mX2_childInRow_f9 : Cond.fieldLink RX2 9 "YearBook$Picture" "who" "[I" ∈ wsX2_childInRow := by decide +kernel
set_option maxHeartbeats 4000000 in
set_option maxRecDepth 100000 in
theorem tX2_childInRow (l : Launch) (dC : Nat → ClassId) (dI : Nat → Nat → Nat) (cI : ClassId) (h : Nat) (ad : Nat → Nat)  (sz : Nat) (post : Int32 → Prop) (p1 : Int32) (p2 : Int32) (I : Nat → Int32) (R : Nat → Nat → Int32) (hq : qX2_childInRow post p1 p2 I R) : Met l yX2_childInRow wsX2_childInRow ({ frames := 1, cells := 0, slots := 0, locals := 24 } : Room) (va_Pc [.ref h, .int p1, .int p2] (wPre (dC, dI) vwCl [(cI, .int)] (wd2 cI h ad I R) sz)) (va_Qi (fun r (_ : Unit) => post r ) (wAt (dC, dI) vwCl [(cI, .int)] (va_A (wd2 cI h ad I R) sz) (fun _ : Unit => wd2 cI h ad I R)) (va_A (wd2 cI h ad I R) sz)) 0 0 (va_A (wd2 cI h ad I R) sz) := by
  unfold qX2_childInRow at hq
  refine Met.ofW (cc := cX2_childInRow) (maxL := 4) (ret := (some .int)) (by decide) rfl ?_
  intro p e s m args below meth c s₁ B hml hv
  obtain ⟨rfl, hsz, hP, hK, hD0⟩ := hv
  have hx := B.exec
  have hb := B.bytes
  have hr := B.returns
  have hts := atoms_spec (ws := wsX2_childInRow) B.pre
  have hown : s.vm.findClass RX2 = some m.cls := findClass_of_methodNamed B.named
  have hlocks := B.notSynchronized
  subst hsz
  have hD := hD0.self (sz := s.heap.size)
  generalize hAe : va_A (wd2 cI h ad I R) s.heap.size = A at hD ⊢
  have hA : ∀ q : Nat, s.heap.size ≤ q → A q := fun q h => by rw [← hAe]; exact Or.inr h
  have hS : va_S A s.heap s.heap [] := va_S.rf
  have hZ : zX2_childInRow post p1 p2 I R
      (fun (x3 : Int32) => ∀ (H : Heap) (locs : List Loc) (ls : Array Slot), va_P (dC, dI) vwCl (wd2 cI h ad I R) H → va_D A (wd2 cI h ad I R) → va_S A s.heap H locs → lv_has ls 4 [(0, .ref h), (1, .int p1), (2, .int p2), (3, .int x3)] → W p l e (headSpec wsX2_childInRow ({ frames := 1, cells := 0, slots := 0, locals := 24 } : Room)).room s m ([.ref h, .int p1, .int p2] : List Value).toArray below meth c H locs 0 0 (MQ below (va_Qi (fun r (_ : Unit) => post r ) (wAt (dC, dI) vwCl [(cI, .int)] A (fun _ : Unit => wd2 cI h ad I R)) A) ([.ref h, .int p1, .int p2] : List Value).toArray s 0 0 A) (F0 m 2 ls [])) := by
    unfold zX2_childInRow
    intro x3 hq H locs ls hP hD hS hl
    refine lv_iload_n hx hb dX2_childInRow_2 rfl (lv_at hl 3 rfl) ?_
    refine lv_aload_n hx hb dX2_childInRow_3 rfl (lv_at hl 0 rfl) ?_
    refine va_get (D := (dC, dI)) (ci := 2) (v := .int (I 3)) (C := RX2) (T := TX2) (N := 11) hx hb hts nX2_childInRow_X2 hown hK hP 0 rfl rfl 3 (by decide) (hts _ mX2_childInRow_f37) (fun _ h9 => h9) rfl dX2_childInRow_4 ?_
    refine lv_icmp_ge (tgt := 41) hx hb dX2_childInRow_7 (by decide) (fun hc => ?_) (fun hc => ?_)
    · have hq := hq.1 hc
      refine lv_iconst (v := (-1 : Int32)) hx hb dX2_childInRow_41 (by decide) ?_
      exact w_iret (post := fun r (_ : Unit) => post r ) (wf := fun _ : Unit => wd2 cI h ad I R) (u := ()) hx hb hr hK hP hD hS hq dX2_childInRow_42 hlocks
    · have hq := hq.2 hc
      refine lv_iload_n hx hb dX2_childInRow_10 rfl (lv_at hl 1 rfl) ?_
      refine lv_iload_n hx hb dX2_childInRow_11 rfl (lv_at hl 3 rfl) ?_
      refine lv_ishr hx hb dX2_childInRow_12 ?_
      refine lv_iconst (v := (1 : Int32)) hx hb dX2_childInRow_13 (by decide) ?_
      refine lv_iand hx hb dX2_childInRow_14 ?_
      refine lv_if_eq (tgt := 35) hx hb dX2_childInRow_15 (by decide) (fun hc => ?_) (fun hc => ?_)
      · have hq := hq.1 hc
        refine lv_iinc (v := x3 + (1 : Int32)) (lv' := [(3, .int (x3 + (1 : Int32))), (0, .ref h), (1, .int p1), (2, .int p2)]) hx hb dX2_childInRow_35 hl (k := 3) rfl rfl (by decide) rfl (fun ls hl => ?_)
        refine lv_goto (tgt := 2) hx hb dX2_childInRow_38 (by decide) ?_
        exact hq _ _ ls hP hD hS (lv_sub hl [1, 2, 3, 0] rfl)
      · have hq := hq.2 hc
        refine lv_aload_n hx hb dX2_childInRow_18 rfl (lv_at hl 0 rfl) ?_
        refine lv_iload_n hx hb dX2_childInRow_19 rfl (lv_at hl 3 rfl) ?_
        refine lv_iload_n hx hb dX2_childInRow_20 rfl (lv_at hl 1 rfl) ?_
        obtain ⟨Pc_1, hc, hq⟩ := hq
        refine w_calli (wf := fun _ : Unit => wd2 cI h ad I R) (va_runV (As := [.int x3, .int p1]) (rest := []) ⟨hx, hb, hml, hown, hts⟩ (tX2_leftOf l dC dI cI h ad _ Pc_1 x3 p1 I R hc) (cwV 2 hts gX2_childInRow_X2_leftOf rfl rfl rfl (by decide +kernel) ⟨Nat.le_of_ble_eq_true rfl, Nat.le_of_ble_eq_true rfl⟩) (wPreV hK hP hD (ci := 2) (q0 := 0) rfl rfl) rfl rfl hl.1 rfl (lv_room (Nat.le_of_ble_eq_true rfl)) dX2_childInRow_21 ⟨Nat.le_of_ble_eq_true rfl, Nat.le_of_ble_eq_true rfl⟩) hD hS hA (fun rc_1 u H locs hp hP hD hS => ?_)
        have hq := hq rc_1 hp
        have hP : va_P (dC, dI) vwCl (wd2 cI h ad I R) H := hP
        have hD : va_D A (wd2 cI h ad I R) := hD
        refine lv_iload_n hx hb dX2_childInRow_24 rfl (lv_at hl 2 rfl) ?_
        refine lv_icmp_ne (tgt := 35) hx hb dX2_childInRow_25 (by decide) (fun hc => ?_) (fun hc => ?_)
        · have hq := hq.1 hc
          refine lv_iinc (v := x3 + (1 : Int32)) (lv' := [(3, .int (x3 + (1 : Int32))), (0, .ref h), (1, .int p1), (2, .int p2)]) hx hb dX2_childInRow_35 hl (k := 3) rfl rfl (by decide) rfl (fun ls hl => ?_)
          refine lv_goto (tgt := 2) hx hb dX2_childInRow_38 (by decide) ?_
          exact hq _ _ ls hP hD hS (lv_sub hl [1, 2, 3, 0] rfl)
        · have hq := hq.2 hc
          refine lv_aload_n hx hb dX2_childInRow_28 rfl (lv_at hl 0 rfl) ?_
          refine va_get (D := (dC, dI)) (ci := 2) (v := .ref (ad 4)) (C := RX2) (T := TX2) (N := 11) hx hb hts nX2_childInRow_X2 hown hK hP 0 rfl rfl 4 (by decide) (hts _ mX2_childInRow_f9) (fun _ h9 => h9) rfl dX2_childInRow_29 ?_
          refine lv_iload_n hx hb dX2_childInRow_32 rfl (lv_at hl 3 rfl) ?_
          obtain ⟨hi_2, hq⟩ := hq
          refine va_iald (f := R 4) hx hb hK hP 1 0 rfl rfl hi_2 dX2_childInRow_33 ?_
          exact w_iret (post := fun r (_ : Unit) => post r ) (wf := fun _ : Unit => wd2 cI h ad I R) (u := ()) hx hb hr hK hP hD hS hq dX2_childInRow_34 hlocks
  have hl := lv_entry ([.ref h, .int p1, .int p2]) (n := 4) (Nat.le_of_ble_eq_true rfl)
  rw [lg_entry_eq]
  generalize (lg_sl ([.ref h, .int p1, .int p2]) ++ List.replicate (4 - (lg_sl ([.ref h, .int p1, .int p2])).length) Slot.unset).toArray = ls at hl ⊢
  have hl : lv_has ls 4 [(0, .ref h), (1, .int p1), (2, .int p2)] := hl
  refine lv_iconst (v := (0 : Int32)) hx hb dX2_childInRow_0 (by decide) ?_
  refine lv_istore_n (lv' := [(3, .int (0 : Int32)), (0, .ref h), (1, .int p1), (2, .int p2)]) hx hb dX2_childInRow_1 rfl hl (by decide) rfl (fun ls hl => ?_)
  exact hq _ hZ _ _ ls hP hD hS (lv_sub hl [1, 2, 3, 0] rfl)
def qX2_edge (post : Int32 → Prop) (p1 : Int32) (I : Nat → Int32) (R : Nat → Nat → Int32) : Prop := (((I 8) = 0) → (post (-1 : Int32))) ∧ ((¬ (I 8) = 0) → (((p1 < 0) → (post (-1 : Int32))) ∧ ((¬ p1 < 0) → (((p1 < (4 : Int32)) → (vp_in p1 4 ∧ (post (R 10 p1.toNatClampNeg)))) ∧ ((¬ p1 < (4 : Int32)) → (post (-1 : Int32)))))))
theorem mX2_edge_f40 : Cond.fieldLink RX2 40 "YearBook$Picture" "allowed" "I" ∈ wsX2_edge := by decide +kernel
theorem nX2_edge_X2 : ∀ w ∈ u_ws RX2 TX2 11, w ∈ wsX2_edge := by decide +kernel
theorem mX2_edge_f24 : Cond.fieldLink RX2 24 "YearBook$Picture" "cut" "[I" ∈ wsX2_edge := by decide +kernel
set_option maxHeartbeats 4000000 in
set_option maxRecDepth 100000 in
theorem tX2_edge (l : Launch) (dC : Nat → ClassId) (dI : Nat → Nat → Nat) (cI : ClassId) (h : Nat) (ad : Nat → Nat)  (sz : Nat) (post : Int32 → Prop) (p1 : Int32) (I : Nat → Int32) (R : Nat → Nat → Int32) (hq : qX2_edge post p1 I R) : Met l yX2_edge wsX2_edge ({ frames := 0, cells := 0, slots := 0, locals := 0 } : Room) (va_Pc [.ref h, .int p1] (wPre (dC, dI) vwCl [(cI, .int)] (wd2 cI h ad I R) sz)) (va_Qi (fun r (_ : Unit) => post r ) (wAt (dC, dI) vwCl [(cI, .int)] (va_A (wd2 cI h ad I R) sz) (fun _ : Unit => wd2 cI h ad I R)) (va_A (wd2 cI h ad I R) sz)) 0 0 (va_A (wd2 cI h ad I R) sz) := by
  unfold qX2_edge at hq
  refine Met.ofW (cc := cX2_edge) (maxL := 2) (ret := (some .int)) (by decide) rfl ?_
  intro p e s m args below meth c s₁ B hml hv
  obtain ⟨rfl, hsz, hP, hK, hD0⟩ := hv
  have hx := B.exec
  have hb := B.bytes
  have hr := B.returns
  have hts := atoms_spec (ws := wsX2_edge) B.pre
  have hown : s.vm.findClass RX2 = some m.cls := findClass_of_methodNamed B.named
  have hlocks := B.notSynchronized
  subst hsz
  have hD := hD0.self (sz := s.heap.size)
  generalize hAe : va_A (wd2 cI h ad I R) s.heap.size = A at hD ⊢
  have hA : ∀ q : Nat, s.heap.size ≤ q → A q := fun q h => by rw [← hAe]; exact Or.inr h
  have hS : va_S A s.heap s.heap [] := va_S.rf
  have hl := lv_entry ([.ref h, .int p1]) (n := 2) (Nat.le_of_ble_eq_true rfl)
  rw [lg_entry_eq]
  generalize (lg_sl ([.ref h, .int p1]) ++ List.replicate (2 - (lg_sl ([.ref h, .int p1])).length) Slot.unset).toArray = ls at hl ⊢
  have hl : lv_has ls 2 [(0, .ref h), (1, .int p1)] := hl
  refine lv_aload_n hx hb dX2_edge_0 rfl (lv_at hl 0 rfl) ?_
  refine va_get (D := (dC, dI)) (ci := 2) (v := .int (I 8)) (C := RX2) (T := TX2) (N := 11) hx hb hts nX2_edge_X2 hown hK hP 0 rfl rfl 8 (by decide) (hts _ mX2_edge_f40) (fun _ h9 => h9) rfl dX2_edge_1 ?_
  refine lv_if_eq (tgt := 20) hx hb dX2_edge_4 (by decide) (fun hc => ?_) (fun hc => ?_)
  · have hq := hq.1 hc
    refine lv_iconst (v := (-1 : Int32)) hx hb dX2_edge_20 (by decide) ?_
    refine lv_goto (tgt := 30) hx hb dX2_edge_21 (by decide) ?_
    exact w_iret (post := fun r (_ : Unit) => post r ) (wf := fun _ : Unit => wd2 cI h ad I R) (u := ()) hx hb hr hK hP hD hS hq dX2_edge_30 hlocks
  · have hq := hq.2 hc
    refine lv_iload_n hx hb dX2_edge_7 rfl (lv_at hl 1 rfl) ?_
    refine lv_if_lt (tgt := 20) hx hb dX2_edge_8 (by decide) (fun hc => ?_) (fun hc => ?_)
    · have hq := hq.1 hc
      refine lv_iconst (v := (-1 : Int32)) hx hb dX2_edge_20 (by decide) ?_
      refine lv_goto (tgt := 30) hx hb dX2_edge_21 (by decide) ?_
      exact w_iret (post := fun r (_ : Unit) => post r ) (wf := fun _ : Unit => wd2 cI h ad I R) (u := ()) hx hb hr hK hP hD hS hq dX2_edge_30 hlocks
    · have hq := hq.2 hc
      refine lv_iload_n hx hb dX2_edge_11 rfl (lv_at hl 1 rfl) ?_
      refine lv_aload_n hx hb dX2_edge_12 rfl (lv_at hl 0 rfl) ?_
      refine va_get (D := (dC, dI)) (ci := 2) (v := .ref (ad 10)) (C := RX2) (T := TX2) (N := 11) hx hb hts nX2_edge_X2 hown hK hP 0 rfl rfl 10 (by decide) (hts _ mX2_edge_f24) (fun _ h9 => h9) rfl dX2_edge_13 ?_
      refine va_alen (v := (4 : Int32)) hx hb hK hP 5 0 rfl rfl rfl dX2_edge_16 ?_
      refine lv_icmp_lt (tgt := 24) hx hb dX2_edge_17 (by decide) (fun hc => ?_) (fun hc => ?_)
      · have hq := hq.1 hc
        refine lv_aload_n hx hb dX2_edge_24 rfl (lv_at hl 0 rfl) ?_
        refine va_get (D := (dC, dI)) (ci := 2) (v := .ref (ad 10)) (C := RX2) (T := TX2) (N := 11) hx hb hts nX2_edge_X2 hown hK hP 0 rfl rfl 10 (by decide) (hts _ mX2_edge_f24) (fun _ h9 => h9) rfl dX2_edge_25 ?_
        refine lv_iload_n hx hb dX2_edge_28 rfl (lv_at hl 1 rfl) ?_
        obtain ⟨hi_1, hq⟩ := hq
        refine va_iald (f := R 10) hx hb hK hP 5 0 rfl rfl hi_1 dX2_edge_29 ?_
        exact w_iret (post := fun r (_ : Unit) => post r ) (wf := fun _ : Unit => wd2 cI h ad I R) (u := ()) hx hb hr hK hP hD hS hq dX2_edge_30 hlocks
      · have hq := hq.2 hc
        refine lv_iconst (v := (-1 : Int32)) hx hb dX2_edge_20 (by decide) ?_
        refine lv_goto (tgt := 30) hx hb dX2_edge_21 (by decide) ?_
        exact w_iret (post := fun r (_ : Unit) => post r ) (wf := fun _ : Unit => wd2 cI h ad I R) (u := ()) hx hb hr hK hP hD hS hq dX2_edge_30 hlocks
def zX2_frame (post : (Nat → Int32) → (Nat → Nat → Int32) → Prop) (X38 : Int32 → (Nat → Int32) → (Nat → Nat → Int32) → Prop) : Prop :=
  (∀ (x1 : Int32) (I : Nat → Int32) (R : Nat → Nat → Int32), ((((I 3) ≤ x1) → (post I R)) ∧ ((¬ (I 3) ≤ x1) → ((((((I 8) >>> (x1 &&& 31)) &&& (1 : Int32)) = 0) → (X38 (x1 + (1 : Int32)) I R)) ∧ ((¬ (((I 8) >>> (x1 &&& 31)) &&& (1 : Int32)) = 0) → (vp_in x1 8 ∧ (∀ v_2 : Int32, v_2 = (if (R 5 x1.toNatClampNeg) - (R 7 x1.toNatClampNeg) < R 10 0 then (R 5 x1.toNatClampNeg) - (R 7 x1.toNatClampNeg) else R 10 0) → (∀ v_3 : Int32, v_3 = (upd (R 10) 0 v_2) 1 → (∀ v_4 : Int32, v_4 = (if (R 6 x1.toNatClampNeg) - (R 7 x1.toNatClampNeg) < v_3 then (R 6 x1.toNatClampNeg) - (R 7 x1.toNatClampNeg) else v_3) → (∀ v_5 : Int32, v_5 = (upd (upd (R 10) 0 v_2) 1 v_4) 2 → (∀ v_6 : Int32, v_6 = (if v_5 < (R 5 x1.toNatClampNeg) + (R 7 x1.toNatClampNeg) then (R 5 x1.toNatClampNeg) + (R 7 x1.toNatClampNeg) else v_5) → (∀ v_7 : Int32, v_7 = (upd (upd (upd (R 10) 0 v_2) 1 v_4) 2 v_6) 3 → (∀ v_8 : Int32, v_8 = (if v_7 < (R 6 x1.toNatClampNeg) + (R 7 x1.toNatClampNeg) then (R 6 x1.toNatClampNeg) + (R 7 x1.toNatClampNeg) else v_7) → (X38 (x1 + (1 : Int32)) I (va_up R 10 (upd (upd (upd (upd (R 10) 0 v_2) 1 v_4) 2 v_6) 3 v_8))))))))))))))) → X38 x1 I R)
def qX2_frame_38 (post : (Nat → Int32) → (Nat → Nat → Int32) → Prop) (x1 : Int32) (I : Nat → Int32) (R : Nat → Nat → Int32) : Prop := ∀ (X38 : Int32 → (Nat → Int32) → (Nat → Nat → Int32) → Prop), zX2_frame post X38 → X38 x1 I R
theorem kX2_frame_38 {post : (Nat → Int32) → (Nat → Nat → Int32) → Prop} {x1 : Int32} {I : Nat → Int32} {R : Nat → Nat → Int32} (h : (((I 3) ≤ x1) → (post I R)) ∧ ((¬ (I 3) ≤ x1) → ((((((I 8) >>> (x1 &&& 31)) &&& (1 : Int32)) = 0) → (qX2_frame_38 post (x1 + (1 : Int32)) I R)) ∧ ((¬ (((I 8) >>> (x1 &&& 31)) &&& (1 : Int32)) = 0) → (vp_in x1 8 ∧ (∀ v_2 : Int32, v_2 = (if (R 5 x1.toNatClampNeg) - (R 7 x1.toNatClampNeg) < R 10 0 then (R 5 x1.toNatClampNeg) - (R 7 x1.toNatClampNeg) else R 10 0) → (∀ v_3 : Int32, v_3 = (upd (R 10) 0 v_2) 1 → (∀ v_4 : Int32, v_4 = (if (R 6 x1.toNatClampNeg) - (R 7 x1.toNatClampNeg) < v_3 then (R 6 x1.toNatClampNeg) - (R 7 x1.toNatClampNeg) else v_3) → (∀ v_5 : Int32, v_5 = (upd (upd (R 10) 0 v_2) 1 v_4) 2 → (∀ v_6 : Int32, v_6 = (if v_5 < (R 5 x1.toNatClampNeg) + (R 7 x1.toNatClampNeg) then (R 5 x1.toNatClampNeg) + (R 7 x1.toNatClampNeg) else v_5) → (∀ v_7 : Int32, v_7 = (upd (upd (upd (R 10) 0 v_2) 1 v_4) 2 v_6) 3 → (∀ v_8 : Int32, v_8 = (if v_7 < (R 6 x1.toNatClampNeg) + (R 7 x1.toNatClampNeg) then (R 6 x1.toNatClampNeg) + (R 7 x1.toNatClampNeg) else v_7) → (qX2_frame_38 post (x1 + (1 : Int32)) I (va_up R 10 (upd (upd (upd (upd (R 10) 0 v_2) 1 v_4) 2 v_6) 3 v_8))))))))))))))) : qX2_frame_38 post x1 I R := by
  intro Z38 hcl
  refine hcl x1 I R ?_
  refine ⟨fun c => ?_, fun c => ?_⟩
  · have h := h.1 c
    exact h
  · have h := h.2 c
    refine ⟨fun c => ?_, fun c => ?_⟩
    · have h := h.1 c
      exact h _ hcl
    · have h := h.2 c
      refine ⟨h.1, ?_⟩
      have h := h.2
      intro x e
      have h := h x e
      intro x e
      have h := h x e
      intro x e
      have h := h x e
      intro x e
      have h := h x e
      intro x e
      have h := h x e
      intro x e
      have h := h x e
      intro x e
      have h := h x e
      exact h _ hcl
def qX2_frame (post : (Nat → Int32) → (Nat → Nat → Int32) → Prop) (I : Nat → Int32) (R : Nat → Nat → Int32) : Prop := qX2_frame_38 post (0 : Int32) I (va_up R 10 (upd (upd (upd (upd (R 10) 0 (1000 : Int32)) 1 (1000 : Int32)) 2 (-1000 : Int32)) 3 (-1000 : Int32)))
theorem mX2_frame_f24 : Cond.fieldLink RX2 24 "YearBook$Picture" "cut" "[I" ∈ wsX2_frame := by decide +kernel
theorem nX2_frame_X2 : ∀ w ∈ u_ws RX2 TX2 11, w ∈ wsX2_frame := by decide +kernel
theorem mX2_frame_f37 : Cond.fieldLink RX2 37 "YearBook$Picture" "faces" "I" ∈ wsX2_frame := by decide +kernel
theorem mX2_frame_f40 : Cond.fieldLink RX2 40 "YearBook$Picture" "allowed" "I" ∈ wsX2_frame := by decide +kernel
theorem mX2_frame_f15 : Cond.fieldLink RX2 15 "YearBook$Picture" "xs" "[I" ∈ wsX2_frame := by decide +kernel
theorem mX2_frame_f21 : Cond.fieldLink RX2 21 "YearBook$Picture" "halves" "[I" ∈ wsX2_frame := by decide +kernel
theorem mX2_frame_m53 : Cond.methodLink RX2 53 Lib.Math.min.name ∈ wsX2_frame := by decide +kernel
theorem mX2_frame_s53 : Cond.static Lib.Math.min.name ∈ wsX2_frame := by decide +kernel
theorem mX2_frame_iMath : Cond.initialized "java/lang/Math" ∈ wsX2_frame := by decide +kernel
theorem mX2_frame_k53 : Cond.code Lib.Math.min.name Lib.Math.min.code 2 (some .int) ∈ wsX2_frame := by decide +kernel
theorem mX2_frame_f18 : Cond.fieldLink RX2 18 "YearBook$Picture" "ys" "[I" ∈ wsX2_frame := by decide +kernel
theorem mX2_frame_m59 : Cond.methodLink RX2 59 Lib.Math.max.name ∈ wsX2_frame := by decide +kernel
theorem mX2_frame_s59 : Cond.static Lib.Math.max.name ∈ wsX2_frame := by decide +kernel
theorem mX2_frame_k59 : Cond.code Lib.Math.max.name Lib.Math.max.code 2 (some .int) ∈ wsX2_frame := by decide +kernel
set_option maxHeartbeats 4000000 in
set_option maxRecDepth 100000 in
theorem tX2_frame (l : Launch) (dC : Nat → ClassId) (dI : Nat → Nat → Nat) (cI : ClassId) (h : Nat) (ad : Nat → Nat)  (sz : Nat) (post : (Nat → Int32) → (Nat → Nat → Int32) → Prop) (I : Nat → Int32) (R : Nat → Nat → Int32) (hq : qX2_frame post I R) : Met l yX2_frame wsX2_frame ({ frames := 1, cells := 0, slots := 0, locals := 30 } : Room) (va_Pc [.ref h] (wPre (dC, dI) vwCl [(cI, .int)] (wd2 cI h ad I R) sz)) (va_Qv (fun (u : (Nat → Int32) × (Nat → Nat → Int32)) => post u.1 u.2) (wAt (dC, dI) vwCl [(cI, .int)] (va_A (wd2 cI h ad I R) sz) (fun u : (Nat → Int32) × (Nat → Nat → Int32) => wd2 cI h ad u.1 u.2)) (va_A (wd2 cI h ad I R) sz)) 0 0 (va_A (wd2 cI h ad I R) sz) := by
  unfold qX2_frame at hq
  refine Met.ofW (cc := cX2_frame) (maxL := 2) (ret := none) (by decide) rfl ?_
  intro p e s m args below meth c s₁ B hml hv
  obtain ⟨rfl, hsz, hP, hK, hD0⟩ := hv
  have hx := B.exec
  have hb := B.bytes
  have hr := B.returns
  have hts := atoms_spec (ws := wsX2_frame) B.pre
  have hown : s.vm.findClass RX2 = some m.cls := findClass_of_methodNamed B.named
  have hlocks := B.notSynchronized
  subst hsz
  have hD := hD0.self (sz := s.heap.size)
  generalize hAe : va_A (wd2 cI h ad I R) s.heap.size = A at hD ⊢
  have hA : ∀ q : Nat, s.heap.size ≤ q → A q := fun q h => by rw [← hAe]; exact Or.inr h
  have hS : va_S A s.heap s.heap [] := va_S.rf
  have hZ : zX2_frame post
      (fun (x1 : Int32) (I : Nat → Int32) (R : Nat → Nat → Int32) => ∀ (H : Heap) (locs : List Loc) (ls : Array Slot), va_P (dC, dI) vwCl (wd2 cI h ad I R) H → va_D A (wd2 cI h ad I R) → va_S A s.heap H locs → lv_has ls 2 [(0, .ref h), (1, .int x1)] → W p l e (headSpec wsX2_frame ({ frames := 1, cells := 0, slots := 0, locals := 30 } : Room)).room s m ([.ref h] : List Value).toArray below meth c H locs 0 0 (MQ below (va_Qv (fun (u : (Nat → Int32) × (Nat → Nat → Int32)) => post u.1 u.2) (wAt (dC, dI) vwCl [(cI, .int)] A (fun u : (Nat → Int32) × (Nat → Nat → Int32) => wd2 cI h ad u.1 u.2)) A) ([.ref h] : List Value).toArray s 0 0 A) (F0 m 38 ls [])) := by
    unfold zX2_frame
    intro x1 I R hq H locs ls hP hD hS hl
    refine lv_iload_n hx hb dX2_frame_38 rfl (lv_at hl 1 rfl) ?_
    refine lv_aload_n hx hb dX2_frame_39 rfl (lv_at hl 0 rfl) ?_
    refine va_get (D := (dC, dI)) (ci := 2) (v := .int (I 3)) (C := RX2) (T := TX2) (N := 11) hx hb hts nX2_frame_X2 hown hK hP 0 rfl rfl 3 (by decide) (hts _ mX2_frame_f37) (fun _ h9 => h9) rfl dX2_frame_40 ?_
    refine lv_icmp_ge (tgt := 175) hx hb dX2_frame_43 (by decide) (fun hc => ?_) (fun hc => ?_)
    · have hq := hq.1 hc
      exact w_vret (post := fun (u : (Nat → Int32) × (Nat → Nat → Int32)) => post u.1 u.2) (wf := fun u : (Nat → Int32) × (Nat → Nat → Int32) => wd2 cI h ad u.1 u.2) (u := (I, R)) hx hb hr hK hP hD hS hq dX2_frame_175 hlocks
    · have hq := hq.2 hc
      refine lv_aload_n hx hb dX2_frame_46 rfl (lv_at hl 0 rfl) ?_
      refine va_get (D := (dC, dI)) (ci := 2) (v := .int (I 8)) (C := RX2) (T := TX2) (N := 11) hx hb hts nX2_frame_X2 hown hK hP 0 rfl rfl 8 (by decide) (hts _ mX2_frame_f40) (fun _ h9 => h9) rfl dX2_frame_47 ?_
      refine lv_iload_n hx hb dX2_frame_50 rfl (lv_at hl 1 rfl) ?_
      refine lv_ishr hx hb dX2_frame_51 ?_
      refine lv_iconst (v := (1 : Int32)) hx hb dX2_frame_52 (by decide) ?_
      refine lv_iand hx hb dX2_frame_53 ?_
      refine lv_if_eq (tgt := 169) hx hb dX2_frame_54 (by decide) (fun hc => ?_) (fun hc => ?_)
      · have hq := hq.1 hc
        refine lv_iinc (v := x1 + (1 : Int32)) (lv' := [(1, .int (x1 + (1 : Int32))), (0, .ref h)]) hx hb dX2_frame_169 hl (k := 1) rfl rfl (by decide) rfl (fun ls hl => ?_)
        refine lv_goto (tgt := 38) hx hb dX2_frame_172 (by decide) ?_
        exact hq _ _ ls hP hD hS (lv_sub hl [1, 0] rfl)
      · have hq := hq.2 hc
        refine lv_aload_n hx hb dX2_frame_57 rfl (lv_at hl 0 rfl) ?_
        refine va_get (D := (dC, dI)) (ci := 2) (v := .ref (ad 10)) (C := RX2) (T := TX2) (N := 11) hx hb hts nX2_frame_X2 hown hK hP 0 rfl rfl 10 (by decide) (hts _ mX2_frame_f24) (fun _ h9 => h9) rfl dX2_frame_58 ?_
        refine lv_iconst (v := (0 : Int32)) hx hb dX2_frame_61 (by decide) ?_
        refine lv_aload_n hx hb dX2_frame_62 rfl (lv_at hl 0 rfl) ?_
        refine va_get (D := (dC, dI)) (ci := 2) (v := .ref (ad 10)) (C := RX2) (T := TX2) (N := 11) hx hb hts nX2_frame_X2 hown hK hP 0 rfl rfl 10 (by decide) (hts _ mX2_frame_f24) (fun _ h9 => h9) rfl dX2_frame_63 ?_
        refine lv_iconst (v := (0 : Int32)) hx hb dX2_frame_66 (by decide) ?_
        refine va_ialdk (f := R 10) hx hb hK hP 5 0 rfl rfl 0 (by decide) (by unfold vp_in; decide) dX2_frame_67 ?_
        refine lv_aload_n hx hb dX2_frame_68 rfl (lv_at hl 0 rfl) ?_
        refine va_get (D := (dC, dI)) (ci := 2) (v := .ref (ad 5)) (C := RX2) (T := TX2) (N := 11) hx hb hts nX2_frame_X2 hown hK hP 0 rfl rfl 5 (by decide) (hts _ mX2_frame_f15) (fun _ h9 => h9) rfl dX2_frame_69 ?_
        refine lv_iload_n hx hb dX2_frame_72 rfl (lv_at hl 1 rfl) ?_
        obtain ⟨hi_1, hq⟩ := hq
        refine va_iald (f := R 5) hx hb hK hP 2 0 rfl rfl hi_1 dX2_frame_73 ?_
        refine lv_aload_n hx hb dX2_frame_74 rfl (lv_at hl 0 rfl) ?_
        refine va_get (D := (dC, dI)) (ci := 2) (v := .ref (ad 7)) (C := RX2) (T := TX2) (N := 11) hx hb hts nX2_frame_X2 hown hK hP 0 rfl rfl 7 (by decide) (hts _ mX2_frame_f21) (fun _ h9 => h9) rfl dX2_frame_75 ?_
        refine lv_iload_n hx hb dX2_frame_78 rfl (lv_at hl 1 rfl) ?_
        refine va_iald (f := R 7) hx hb hK hP 4 0 rfl rfl hi_1 dX2_frame_79 ?_
        refine lv_isub hx hb dX2_frame_80 ?_
        refine va_mmin hx hb (hml.trans hl.1.symm) hown (hts _ mX2_frame_m53) (hts _ mX2_frame_s53) (hts _ mX2_frame_iMath) (hts _ mX2_frame_k53) (Nat.le_of_ble_eq_true rfl) (Nat.le_of_ble_eq_true rfl) (Nat.zero_le _) (Nat.zero_le _) dX2_frame_81 ?_
        refine lv_topi (fun v_2 ev_2 => ?_)
        have hq := hq v_2 ev_2
        refine va_iastk (f := R 10) hx hb hK hP hD hS 5 0 rfl rfl 0 (by decide) (by unfold vp_in; decide) dX2_frame_84 (fun H locs hP hD hS => ?_)
        rw [wd2_R10] at hP hD
        refine lv_aload_n hx hb dX2_frame_85 rfl (lv_at hl 0 rfl) ?_
        refine va_get (D := (dC, dI)) (ci := 2) (v := .ref (ad 10)) (C := RX2) (T := TX2) (N := 11) hx hb hts nX2_frame_X2 hown hK hP 0 rfl rfl 10 (by decide) (hts _ mX2_frame_f24) (fun _ h9 => h9) rfl dX2_frame_86 ?_
        refine lv_iconst (v := (1 : Int32)) hx hb dX2_frame_89 (by decide) ?_
        refine lv_aload_n hx hb dX2_frame_90 rfl (lv_at hl 0 rfl) ?_
        refine va_get (D := (dC, dI)) (ci := 2) (v := .ref (ad 10)) (C := RX2) (T := TX2) (N := 11) hx hb hts nX2_frame_X2 hown hK hP 0 rfl rfl 10 (by decide) (hts _ mX2_frame_f24) (fun _ h9 => h9) rfl dX2_frame_91 ?_
        refine lv_iconst (v := (1 : Int32)) hx hb dX2_frame_94 (by decide) ?_
        refine va_ialdk (f := upd (R 10) 0 v_2) hx hb hK hP 5 0 rfl rfl 1 (by decide) (by unfold vp_in; decide) dX2_frame_95 ?_
        refine lv_topi (fun v_3 ev_3 => ?_)
        have hq := hq v_3 ev_3
        refine lv_aload_n hx hb dX2_frame_96 rfl (lv_at hl 0 rfl) ?_
        refine va_get (D := (dC, dI)) (ci := 2) (v := .ref (ad 6)) (C := RX2) (T := TX2) (N := 11) hx hb hts nX2_frame_X2 hown hK hP 0 rfl rfl 6 (by decide) (hts _ mX2_frame_f18) (fun _ h9 => h9) rfl dX2_frame_97 ?_
        refine lv_iload_n hx hb dX2_frame_100 rfl (lv_at hl 1 rfl) ?_
        refine va_iald (f := R 6) hx hb hK hP 3 0 rfl rfl hi_1 dX2_frame_101 ?_
        refine lv_aload_n hx hb dX2_frame_102 rfl (lv_at hl 0 rfl) ?_
        refine va_get (D := (dC, dI)) (ci := 2) (v := .ref (ad 7)) (C := RX2) (T := TX2) (N := 11) hx hb hts nX2_frame_X2 hown hK hP 0 rfl rfl 7 (by decide) (hts _ mX2_frame_f21) (fun _ h9 => h9) rfl dX2_frame_103 ?_
        refine lv_iload_n hx hb dX2_frame_106 rfl (lv_at hl 1 rfl) ?_
        refine va_iald (f := R 7) hx hb hK hP 4 0 rfl rfl hi_1 dX2_frame_107 ?_
        refine lv_isub hx hb dX2_frame_108 ?_
        refine va_mmin hx hb (hml.trans hl.1.symm) hown (hts _ mX2_frame_m53) (hts _ mX2_frame_s53) (hts _ mX2_frame_iMath) (hts _ mX2_frame_k53) (Nat.le_of_ble_eq_true rfl) (Nat.le_of_ble_eq_true rfl) (Nat.zero_le _) (Nat.zero_le _) dX2_frame_109 ?_
        refine lv_topi (fun v_4 ev_4 => ?_)
        have hq := hq v_4 ev_4
        refine va_iastk (f := upd (R 10) 0 v_2) hx hb hK hP hD hS 5 0 rfl rfl 1 (by decide) (by unfold vp_in; decide) dX2_frame_112 (fun H locs hP hD hS => ?_)
        rw [wd2_R10] at hP hD
        refine lv_aload_n hx hb dX2_frame_113 rfl (lv_at hl 0 rfl) ?_
        refine va_get (D := (dC, dI)) (ci := 2) (v := .ref (ad 10)) (C := RX2) (T := TX2) (N := 11) hx hb hts nX2_frame_X2 hown hK hP 0 rfl rfl 10 (by decide) (hts _ mX2_frame_f24) (fun _ h9 => h9) rfl dX2_frame_114 ?_
        refine lv_iconst (v := (2 : Int32)) hx hb dX2_frame_117 (by decide) ?_
        refine lv_aload_n hx hb dX2_frame_118 rfl (lv_at hl 0 rfl) ?_
        refine va_get (D := (dC, dI)) (ci := 2) (v := .ref (ad 10)) (C := RX2) (T := TX2) (N := 11) hx hb hts nX2_frame_X2 hown hK hP 0 rfl rfl 10 (by decide) (hts _ mX2_frame_f24) (fun _ h9 => h9) rfl dX2_frame_119 ?_
        refine lv_iconst (v := (2 : Int32)) hx hb dX2_frame_122 (by decide) ?_
        refine va_ialdk (f := upd (upd (R 10) 0 v_2) 1 v_4) hx hb hK hP 5 0 rfl rfl 2 (by decide) (by unfold vp_in; decide) dX2_frame_123 ?_
        refine lv_topi (fun v_5 ev_5 => ?_)
        have hq := hq v_5 ev_5
        refine lv_aload_n hx hb dX2_frame_124 rfl (lv_at hl 0 rfl) ?_
        refine va_get (D := (dC, dI)) (ci := 2) (v := .ref (ad 5)) (C := RX2) (T := TX2) (N := 11) hx hb hts nX2_frame_X2 hown hK hP 0 rfl rfl 5 (by decide) (hts _ mX2_frame_f15) (fun _ h9 => h9) rfl dX2_frame_125 ?_
        refine lv_iload_n hx hb dX2_frame_128 rfl (lv_at hl 1 rfl) ?_
        refine va_iald (f := R 5) hx hb hK hP 2 0 rfl rfl hi_1 dX2_frame_129 ?_
        refine lv_aload_n hx hb dX2_frame_130 rfl (lv_at hl 0 rfl) ?_
        refine va_get (D := (dC, dI)) (ci := 2) (v := .ref (ad 7)) (C := RX2) (T := TX2) (N := 11) hx hb hts nX2_frame_X2 hown hK hP 0 rfl rfl 7 (by decide) (hts _ mX2_frame_f21) (fun _ h9 => h9) rfl dX2_frame_131 ?_
        refine lv_iload_n hx hb dX2_frame_134 rfl (lv_at hl 1 rfl) ?_
        refine va_iald (f := R 7) hx hb hK hP 4 0 rfl rfl hi_1 dX2_frame_135 ?_
        refine lv_iadd hx hb dX2_frame_136 ?_
        refine va_mmax hx hb (hml.trans hl.1.symm) hown (hts _ mX2_frame_m59) (hts _ mX2_frame_s59) (hts _ mX2_frame_iMath) (hts _ mX2_frame_k59) (Nat.le_of_ble_eq_true rfl) (Nat.le_of_ble_eq_true rfl) (Nat.zero_le _) (Nat.zero_le _) dX2_frame_137 ?_
        refine lv_topi (fun v_6 ev_6 => ?_)
        have hq := hq v_6 ev_6
        refine va_iastk (f := upd (upd (R 10) 0 v_2) 1 v_4) hx hb hK hP hD hS 5 0 rfl rfl 2 (by decide) (by unfold vp_in; decide) dX2_frame_140 (fun H locs hP hD hS => ?_)
        rw [wd2_R10] at hP hD
        refine lv_aload_n hx hb dX2_frame_141 rfl (lv_at hl 0 rfl) ?_
        refine va_get (D := (dC, dI)) (ci := 2) (v := .ref (ad 10)) (C := RX2) (T := TX2) (N := 11) hx hb hts nX2_frame_X2 hown hK hP 0 rfl rfl 10 (by decide) (hts _ mX2_frame_f24) (fun _ h9 => h9) rfl dX2_frame_142 ?_
        refine lv_iconst (v := (3 : Int32)) hx hb dX2_frame_145 (by decide) ?_
        refine lv_aload_n hx hb dX2_frame_146 rfl (lv_at hl 0 rfl) ?_
        refine va_get (D := (dC, dI)) (ci := 2) (v := .ref (ad 10)) (C := RX2) (T := TX2) (N := 11) hx hb hts nX2_frame_X2 hown hK hP 0 rfl rfl 10 (by decide) (hts _ mX2_frame_f24) (fun _ h9 => h9) rfl dX2_frame_147 ?_
        refine lv_iconst (v := (3 : Int32)) hx hb dX2_frame_150 (by decide) ?_
        refine va_ialdk (f := upd (upd (upd (R 10) 0 v_2) 1 v_4) 2 v_6) hx hb hK hP 5 0 rfl rfl 3 (by decide) (by unfold vp_in; decide) dX2_frame_151 ?_
        refine lv_topi (fun v_7 ev_7 => ?_)
        have hq := hq v_7 ev_7
        refine lv_aload_n hx hb dX2_frame_152 rfl (lv_at hl 0 rfl) ?_
        refine va_get (D := (dC, dI)) (ci := 2) (v := .ref (ad 6)) (C := RX2) (T := TX2) (N := 11) hx hb hts nX2_frame_X2 hown hK hP 0 rfl rfl 6 (by decide) (hts _ mX2_frame_f18) (fun _ h9 => h9) rfl dX2_frame_153 ?_
        refine lv_iload_n hx hb dX2_frame_156 rfl (lv_at hl 1 rfl) ?_
        refine va_iald (f := R 6) hx hb hK hP 3 0 rfl rfl hi_1 dX2_frame_157 ?_
        refine lv_aload_n hx hb dX2_frame_158 rfl (lv_at hl 0 rfl) ?_
        refine va_get (D := (dC, dI)) (ci := 2) (v := .ref (ad 7)) (C := RX2) (T := TX2) (N := 11) hx hb hts nX2_frame_X2 hown hK hP 0 rfl rfl 7 (by decide) (hts _ mX2_frame_f21) (fun _ h9 => h9) rfl dX2_frame_159 ?_
        refine lv_iload_n hx hb dX2_frame_162 rfl (lv_at hl 1 rfl) ?_
        refine va_iald (f := R 7) hx hb hK hP 4 0 rfl rfl hi_1 dX2_frame_163 ?_
        refine lv_iadd hx hb dX2_frame_164 ?_
        refine va_mmax hx hb (hml.trans hl.1.symm) hown (hts _ mX2_frame_m59) (hts _ mX2_frame_s59) (hts _ mX2_frame_iMath) (hts _ mX2_frame_k59) (Nat.le_of_ble_eq_true rfl) (Nat.le_of_ble_eq_true rfl) (Nat.zero_le _) (Nat.zero_le _) dX2_frame_165 ?_
        refine lv_topi (fun v_8 ev_8 => ?_)
        have hq := hq v_8 ev_8
        refine va_iastk (f := upd (upd (upd (R 10) 0 v_2) 1 v_4) 2 v_6) hx hb hK hP hD hS 5 0 rfl rfl 3 (by decide) (by unfold vp_in; decide) dX2_frame_168 (fun H locs hP hD hS => ?_)
        rw [wd2_R10] at hP hD
        refine lv_iinc (v := x1 + (1 : Int32)) (lv' := [(1, .int (x1 + (1 : Int32))), (0, .ref h)]) hx hb dX2_frame_169 hl (k := 1) rfl rfl (by decide) rfl (fun ls hl => ?_)
        refine lv_goto (tgt := 38) hx hb dX2_frame_172 (by decide) ?_
        exact hq _ _ ls hP hD hS (lv_sub hl [1, 0] rfl)
  have hl := lv_entry ([.ref h]) (n := 2) (Nat.le_of_ble_eq_true rfl)
  rw [lg_entry_eq]
  generalize (lg_sl ([.ref h]) ++ List.replicate (2 - (lg_sl ([.ref h])).length) Slot.unset).toArray = ls at hl ⊢
  have hl : lv_has ls 2 [(0, .ref h)] := hl
  refine lv_aload_n hx hb dX2_frame_0 rfl (lv_at hl 0 rfl) ?_
  refine va_get (D := (dC, dI)) (ci := 2) (v := .ref (ad 10)) (C := RX2) (T := TX2) (N := 11) hx hb hts nX2_frame_X2 hown hK hP 0 rfl rfl 10 (by decide) (hts _ mX2_frame_f24) (fun _ h9 => h9) rfl dX2_frame_1 ?_
  refine lv_iconst (v := (0 : Int32)) hx hb dX2_frame_4 (by decide) ?_
  refine lv_sipush (v := (1000 : Int32)) hx hb dX2_frame_5 (si_1000) ?_
  refine va_iastk (f := R 10) hx hb hK hP hD hS 5 0 rfl rfl 0 (by decide) (by unfold vp_in; decide) dX2_frame_8 (fun H locs hP hD hS => ?_)
  rw [wd2_R10] at hP hD
  refine lv_aload_n hx hb dX2_frame_9 rfl (lv_at hl 0 rfl) ?_
  refine va_get (D := (dC, dI)) (ci := 2) (v := .ref (ad 10)) (C := RX2) (T := TX2) (N := 11) hx hb hts nX2_frame_X2 hown hK hP 0 rfl rfl 10 (by decide) (hts _ mX2_frame_f24) (fun _ h9 => h9) rfl dX2_frame_10 ?_
  refine lv_iconst (v := (1 : Int32)) hx hb dX2_frame_13 (by decide) ?_
  refine lv_sipush (v := (1000 : Int32)) hx hb dX2_frame_14 (si_1000) ?_
  refine va_iastk (f := upd (R 10) 0 (1000 : Int32)) hx hb hK hP hD hS 5 0 rfl rfl 1 (by decide) (by unfold vp_in; decide) dX2_frame_17 (fun H locs hP hD hS => ?_)
  rw [wd2_R10] at hP hD
  refine lv_aload_n hx hb dX2_frame_18 rfl (lv_at hl 0 rfl) ?_
  refine va_get (D := (dC, dI)) (ci := 2) (v := .ref (ad 10)) (C := RX2) (T := TX2) (N := 11) hx hb hts nX2_frame_X2 hown hK hP 0 rfl rfl 10 (by decide) (hts _ mX2_frame_f24) (fun _ h9 => h9) rfl dX2_frame_19 ?_
  refine lv_iconst (v := (2 : Int32)) hx hb dX2_frame_22 (by decide) ?_
  refine lv_sipush (v := (-1000 : Int32)) hx hb dX2_frame_23 (si_m1000) ?_
  refine va_iastk (f := upd (upd (R 10) 0 (1000 : Int32)) 1 (1000 : Int32)) hx hb hK hP hD hS 5 0 rfl rfl 2 (by decide) (by unfold vp_in; decide) dX2_frame_26 (fun H locs hP hD hS => ?_)
  rw [wd2_R10] at hP hD
  refine lv_aload_n hx hb dX2_frame_27 rfl (lv_at hl 0 rfl) ?_
  refine va_get (D := (dC, dI)) (ci := 2) (v := .ref (ad 10)) (C := RX2) (T := TX2) (N := 11) hx hb hts nX2_frame_X2 hown hK hP 0 rfl rfl 10 (by decide) (hts _ mX2_frame_f24) (fun _ h9 => h9) rfl dX2_frame_28 ?_
  refine lv_iconst (v := (3 : Int32)) hx hb dX2_frame_31 (by decide) ?_
  refine lv_sipush (v := (-1000 : Int32)) hx hb dX2_frame_32 (si_m1000) ?_
  refine va_iastk (f := upd (upd (upd (R 10) 0 (1000 : Int32)) 1 (1000 : Int32)) 2 (-1000 : Int32)) hx hb hK hP hD hS 5 0 rfl rfl 3 (by decide) (by unfold vp_in; decide) dX2_frame_35 (fun H locs hP hD hS => ?_)
  rw [wd2_R10] at hP hD
  refine lv_iconst (v := (0 : Int32)) hx hb dX2_frame_36 (by decide) ?_
  refine lv_istore_n (lv' := [(1, .int (0 : Int32)), (0, .ref h)]) hx hb dX2_frame_37 rfl hl (by decide) rfl (fun ls hl => ?_)
  exact hq _ hZ _ _ ls hP hD hS (lv_sub hl [1, 0] rfl)
