def zX1_nextPage (post : Int32 → (Nat → Int32) → (Nat → Nat → Int32) → Nat → Nat → Prop) (p1 : Int32) (X28 : Int32 → (Nat → Int32) → (Nat → Nat → Int32) → Nat → Nat → Prop) : Prop :=
  (∀ (x2 : Int32) (I : Nat → Int32) (R : Nat → Nat → Int32) (q : Nat) (n : Nat), ((((I 1) ≤ x2) → (post (I 8) I R q n)) ∧ ((¬ (I 1) ≤ x2) → (((((p1 >>> (x2 &&& 31)) &&& (1 : Int32)) = 0) → (X28 (x2 + (1 : Int32)) I R q n)) ∧ ((¬ ((p1 >>> (x2 &&& 31)) &&& (1 : Int32)) = 0) → (vp_in x2 14 ∧ (∃ Pc_3 : (Nat → Int32) → (Nat → Nat → Int32) → Nat → Nat → Prop, qX1_fillPage 20 Pc_3 ((1 : Int32) <<< (x2 &&& 31)) (R 0 x2.toNatClampNeg) (x2 + (1 : Int32)) I R q n ∧ (∀ (Ic_3 : Nat → Int32) (Rc_3 : Nat → Nat → Int32) (qc_3 : Nat) (nc_3 : Nat), Pc_3 Ic_3 Rc_3 qc_3 nc_3 → (post (Ic_3 8) Ic_3 Rc_3 qc_3 nc_3)))))))) → X28 x2 I R q n)
def qX1_nextPage_28 (post : Int32 → (Nat → Int32) → (Nat → Nat → Int32) → Nat → Nat → Prop) (p1 : Int32) (x2 : Int32) (I : Nat → Int32) (R : Nat → Nat → Int32) (q : Nat) (n : Nat) : Prop := ∀ (X28 : Int32 → (Nat → Int32) → (Nat → Nat → Int32) → Nat → Nat → Prop), zX1_nextPage post p1 X28 → X28 x2 I R q n
theorem kX1_nextPage_28 {post : Int32 → (Nat → Int32) → (Nat → Nat → Int32) → Nat → Nat → Prop} {p1 : Int32} {x2 : Int32} {I : Nat → Int32} {R : Nat → Nat → Int32} {q : Nat} {n : Nat} (h : (((I 1) ≤ x2) → (post (I 8) I R q n)) ∧ ((¬ (I 1) ≤ x2) → (((((p1 >>> (x2 &&& 31)) &&& (1 : Int32)) = 0) → (qX1_nextPage_28 post p1 (x2 + (1 : Int32)) I R q n)) ∧ ((¬ ((p1 >>> (x2 &&& 31)) &&& (1 : Int32)) = 0) → (vp_in x2 14 ∧ (∃ Pc_3 : (Nat → Int32) → (Nat → Nat → Int32) → Nat → Nat → Prop, qX1_fillPage 20 Pc_3 ((1 : Int32) <<< (x2 &&& 31)) (R 0 x2.toNatClampNeg) (x2 + (1 : Int32)) I R q n ∧ (∀ (Ic_3 : Nat → Int32) (Rc_3 : Nat → Nat → Int32) (qc_3 : Nat) (nc_3 : Nat), Pc_3 Ic_3 Rc_3 qc_3 nc_3 → (post (Ic_3 8) Ic_3 Rc_3 qc_3 nc_3)))))))) : qX1_nextPage_28 post p1 x2 I R q n := by
  intro Z28 hcl
  refine hcl x2 I R q n ?_
  refine ⟨fun c => ?_, fun c => ?_⟩
  · have h := h.1 c
    exact h
  · have h := h.2 c
    refine ⟨fun c => ?_, fun c => ?_⟩
    · have h := h.1 c
      exact h _ hcl
    · have h := h.2 c
      refine ⟨h.1, ?_⟩
      have h := h.2
      obtain ⟨P, h1, h2⟩ := h
      refine ⟨P, h1, fun b0 b1 b2 b3 hp => ?_⟩
      have h := h2 b0 b1 b2 b3 hp
      exact h
def qX1_nextPage (post : Int32 → (Nat → Int32) → (Nat → Nat → Int32) → Nat → Nat → Prop) (p1 : Int32) (I : Nat → Int32) (R : Nat → Nat → Int32) (q : Nat) (n : Nat) : Prop := ∃ Pc_1 : Int32 → (Nat → Int32) → (Nat → Nat → Int32) → Nat → Nat → Prop, qX1_pagesForA Pc_1 p1 (va_up I 6 p1) R q n ∧ (∀ (rc_1 : Int32) (Ic_1 : Nat → Int32) (Rc_1 : Nat → Nat → Int32) (qc_1 : Nat) (nc_1 : Nat), Pc_1 rc_1 Ic_1 Rc_1 qc_1 nc_1 → (qX1_nextPage_28 post p1 (0 : Int32) (va_up (va_up (va_up Ic_1 7 (rc_1 - (1 : Int32))) 8 (0 : Int32)) 9 (0 : Int32)) Rc_1 qc_1 nc_1))
theorem mX1_nextPage_f61 : Cond.fieldLink RX1 61 "YearBook$Pages" "waiting" "I" ∈ wsX1_nextPage := by decide +kernel
theorem nX1_nextPage_X1 : ∀ w ∈ u_ws RX1 TX1 10, w ∈ wsX1_nextPage := by decide +kernel
theorem mX1_nextPage_f64 : Cond.fieldLink RX1 64 "YearBook$Pages" "pagesForRest" "I" ∈ wsX1_nextPage := by decide +kernel
theorem mX1_nextPage_f67 : Cond.fieldLink RX1 67 "YearBook$Pages" "fullest" "I" ∈ wsX1_nextPage := by decide +kernel
theorem mX1_nextPage_f70 : Cond.fieldLink RX1 70 "YearBook$Pages" "fullestPoints" "I" ∈ wsX1_nextPage := by decide +kernel
theorem mX1_nextPage_f21 : Cond.fieldLink RX1 21 "YearBook$Pages" "pictures" "I" ∈ wsX1_nextPage := by decide +kernel
theorem mX1_nextPage_f9 : Cond.fieldLink RX1 9 "YearBook$Pages" "sizes" "[I" ∈ wsX1_nextPage := by decide +kernel
set_option maxHeartbeats 4000000 in
set_option maxRecDepth 100000 in
theorem tX1_nextPage (l : Launch) (dC : Nat → ClassId) (dI : Nat → Nat → Nat) (cI : ClassId) (h : Nat) (ad : Nat → Nat)  (sz : Nat) (post : Int32 → (Nat → Int32) → (Nat → Nat → Int32) → Nat → Nat → Prop) (p1 : Int32) (I : Nat → Int32) (R : Nat → Nat → Int32) (q : Nat) (n : Nat) (hq : qX1_nextPage post p1 I R q n) : Met l yX1_nextPage wsX1_nextPage ({ frames := 25, cells := 0, slots := 0, locals := 654 } : Room) (va_Pc [.ref h, .int p1] (wPre (dC, dI) vwCl [(cI, .int)] (wd1 cI h ad I R q n) sz)) (va_Qi (fun r (u : (Nat → Int32) × (Nat → Nat → Int32) × (Nat) × (Nat)) => post r u.1 u.2.1 u.2.2.1 u.2.2.2) (wAt (dC, dI) vwCl [(cI, .int)] (va_A (wd1 cI h ad I R q n) sz) (fun u : (Nat → Int32) × (Nat → Nat → Int32) × (Nat) × (Nat) => wd1 cI h ad u.1 u.2.1 u.2.2.1 u.2.2.2)) (va_A (wd1 cI h ad I R q n) sz)) 0 0 (va_A (wd1 cI h ad I R q n) sz) := by
  unfold qX1_nextPage at hq
  refine Met.ofW (cc := cX1_nextPage) (maxL := 3) (ret := (some .int)) (by decide) rfl ?_
  intro p e s m args below meth c s₁ B hml hv
  obtain ⟨rfl, hsz, hP, hK, hD0⟩ := hv
  have hx := B.exec
  have hb := B.bytes
  have hr := B.returns
  have hts := atoms_spec (ws := wsX1_nextPage) B.pre
  have hown : s.vm.findClass RX1 = some m.cls := findClass_of_methodNamed B.named
  have hlocks := B.notSynchronized
  subst hsz
  have hD := hD0.self (sz := s.heap.size)
  generalize hAe : va_A (wd1 cI h ad I R q n) s.heap.size = A at hD ⊢
  have hA : ∀ q : Nat, s.heap.size ≤ q → A q := fun q h => by rw [← hAe]; exact Or.inr h
  have hS : va_S A s.heap s.heap [] := va_S.rf
  have hZ : zX1_nextPage post p1
      (fun (x2 : Int32) (I : Nat → Int32) (R : Nat → Nat → Int32) (q : Nat) (n : Nat) => ∀ (H : Heap) (locs : List Loc) (ls : Array Slot), va_P (dC, dI) vwCl (wd1 cI h ad I R q n) H → va_D A (wd1 cI h ad I R q n) → va_S A s.heap H locs → lv_has ls 3 [(0, .ref h), (1, .int p1), (2, .int x2)] → W p l e (headSpec wsX1_nextPage ({ frames := 25, cells := 0, slots := 0, locals := 654 } : Room)).room s m ([.ref h, .int p1] : List Value).toArray below meth c H locs 0 0 (MQ below (va_Qi (fun r (u : (Nat → Int32) × (Nat → Nat → Int32) × (Nat) × (Nat)) => post r u.1 u.2.1 u.2.2.1 u.2.2.2) (wAt (dC, dI) vwCl [(cI, .int)] A (fun u : (Nat → Int32) × (Nat → Nat → Int32) × (Nat) × (Nat) => wd1 cI h ad u.1 u.2.1 u.2.2.1 u.2.2.2)) A) ([.ref h, .int p1] : List Value).toArray s 0 0 A) (F0 m 28 ls [])) := by
    unfold zX1_nextPage
    intro x2 I R q n hq H locs ls hP hD hS hl
    refine lv_iload_n hx hb dX1_nextPage_28 rfl (lv_at hl 2 rfl) ?_
    refine lv_aload_n hx hb dX1_nextPage_29 rfl (lv_at hl 0 rfl) ?_
    refine va_get (D := (dC, dI)) (ci := 1) (v := .int (I 1)) (C := RX1) (T := TX1) (N := 10) hx hb hts nX1_nextPage_X1 hown hK hP 0 rfl rfl 1 (by decide) (hts _ mX1_nextPage_f21) (fun _ h9 => h9) rfl dX1_nextPage_30 ?_
    refine lv_icmp_ge (tgt := 71) hx hb dX1_nextPage_33 (by decide) (fun hc => ?_) (fun hc => ?_)
    · have hq := hq.1 hc
      refine lv_aload_n hx hb dX1_nextPage_71 rfl (lv_at hl 0 rfl) ?_
      refine va_get (D := (dC, dI)) (ci := 1) (v := .int (I 8)) (C := RX1) (T := TX1) (N := 10) hx hb hts nX1_nextPage_X1 hown hK hP 0 rfl rfl 8 (by decide) (hts _ mX1_nextPage_f67) (fun _ h9 => h9) rfl dX1_nextPage_72 ?_
      exact w_iret (post := fun r (u : (Nat → Int32) × (Nat → Nat → Int32) × (Nat) × (Nat)) => post r u.1 u.2.1 u.2.2.1 u.2.2.2) (wf := fun u : (Nat → Int32) × (Nat → Nat → Int32) × (Nat) × (Nat) => wd1 cI h ad u.1 u.2.1 u.2.2.1 u.2.2.2) (u := (I, R, q, n)) hx hb hr hK hP hD hS hq dX1_nextPage_75 hlocks
    · have hq := hq.2 hc
      refine lv_iload_n hx hb dX1_nextPage_36 rfl (lv_at hl 1 rfl) ?_
      refine lv_iload_n hx hb dX1_nextPage_37 rfl (lv_at hl 2 rfl) ?_
      refine lv_ishr hx hb dX1_nextPage_38 ?_
      refine lv_iconst (v := (1 : Int32)) hx hb dX1_nextPage_39 (by decide) ?_
      refine lv_iand hx hb dX1_nextPage_40 ?_
      refine lv_if_eq (tgt := 65) hx hb dX1_nextPage_41 (by decide) (fun hc => ?_) (fun hc => ?_)
      · have hq := hq.1 hc
        refine lv_iinc (v := x2 + (1 : Int32)) (lv' := [(2, .int (x2 + (1 : Int32))), (0, .ref h), (1, .int p1)]) hx hb dX1_nextPage_65 hl (k := 2) rfl rfl (by decide) rfl (fun ls hl => ?_)
        refine lv_goto (tgt := 28) hx hb dX1_nextPage_68 (by decide) ?_
        exact hq _ _ ls hP hD hS (lv_sub hl [1, 2, 0] rfl)
      · have hq := hq.2 hc
        refine lv_aload_n hx hb dX1_nextPage_44 rfl (lv_at hl 0 rfl) ?_
        refine lv_iconst (v := (1 : Int32)) hx hb dX1_nextPage_45 (by decide) ?_
        refine lv_iload_n hx hb dX1_nextPage_46 rfl (lv_at hl 2 rfl) ?_
        refine lv_ishl hx hb dX1_nextPage_47 ?_
        refine lv_aload_n hx hb dX1_nextPage_48 rfl (lv_at hl 0 rfl) ?_
        refine va_get (D := (dC, dI)) (ci := 1) (v := .ref (ad 0)) (C := RX1) (T := TX1) (N := 10) hx hb hts nX1_nextPage_X1 hown hK hP 0 rfl rfl 0 (by decide) (hts _ mX1_nextPage_f9) (fun _ h9 => h9) rfl dX1_nextPage_49 ?_
        refine lv_iload_n hx hb dX1_nextPage_52 rfl (lv_at hl 2 rfl) ?_
        obtain ⟨hi_2, hq⟩ := hq
        refine va_iald (f := R 0) hx hb hK hP 1 0 rfl rfl hi_2 dX1_nextPage_53 ?_
        refine lv_iload_n hx hb dX1_nextPage_54 rfl (lv_at hl 2 rfl) ?_
        refine lv_iconst (v := (1 : Int32)) hx hb dX1_nextPage_55 (by decide) ?_
        refine lv_iadd hx hb dX1_nextPage_56 ?_
        obtain ⟨Pc_3, hc, hq⟩ := hq
        refine w_callv (wf := fun u : (Nat → Int32) × (Nat → Nat → Int32) × (Nat) × (Nat) => wd1 cI h ad u.1 u.2.1 u.2.2.1 u.2.2.2) (va_runV (As := [.int ((1 : Int32) <<< (x2 &&& 31)), .int (R 0 x2.toNatClampNeg), .int (x2 + (1 : Int32))]) (rest := []) ⟨hx, hb, hml, hown, hts⟩ (tX1_fillPage l dC dI cI h ad 20 _ Pc_3 ((1 : Int32) <<< (x2 &&& 31)) (R 0 x2.toNatClampNeg) (x2 + (1 : Int32)) I R q n hc) (cwV 3 hts gX1_nextPage_X1_fillPage rfl rfl rfl (by decide +kernel) ⟨Nat.le_of_ble_eq_true rfl, Nat.le_of_ble_eq_true rfl⟩) (wPreV hK hP hD (ci := 1) (q0 := 0) rfl rfl) rfl rfl hl.1 rfl (lv_room (Nat.le_of_ble_eq_true rfl)) dX1_nextPage_57 ⟨Nat.le_of_ble_eq_true rfl, Nat.le_of_ble_eq_true rfl⟩) hD hS hA (fun u H locs hp hP hD hS => ?_)
        obtain ⟨Ic_3, Rc_3, qc_3, nc_3⟩ := u
        have hq := hq Ic_3 Rc_3 qc_3 nc_3 hp
        have hP : va_P (dC, dI) vwCl (wd1 cI h ad Ic_3 Rc_3 qc_3 nc_3) H := hP
        have hD : va_D A (wd1 cI h ad Ic_3 Rc_3 qc_3 nc_3) := hD
        refine lv_aload_n hx hb dX1_nextPage_60 rfl (lv_at hl 0 rfl) ?_
        refine va_get (D := (dC, dI)) (ci := 1) (v := .int (Ic_3 8)) (C := RX1) (T := TX1) (N := 10) hx hb hts nX1_nextPage_X1 hown hK hP 0 rfl rfl 8 (by decide) (hts _ mX1_nextPage_f67) (fun _ h9 => h9) rfl dX1_nextPage_61 ?_
        exact w_iret (post := fun r (u : (Nat → Int32) × (Nat → Nat → Int32) × (Nat) × (Nat)) => post r u.1 u.2.1 u.2.2.1 u.2.2.2) (wf := fun u : (Nat → Int32) × (Nat → Nat → Int32) × (Nat) × (Nat) => wd1 cI h ad u.1 u.2.1 u.2.2.1 u.2.2.2) (u := (Ic_3, Rc_3, qc_3, nc_3)) hx hb hr hK hP hD hS hq dX1_nextPage_64 hlocks
  have hl := lv_entry ([.ref h, .int p1]) (n := 3) (Nat.le_of_ble_eq_true rfl)
  rw [lg_entry_eq]
  generalize (lg_sl ([.ref h, .int p1]) ++ List.replicate (3 - (lg_sl ([.ref h, .int p1])).length) Slot.unset).toArray = ls at hl ⊢
  have hl : lv_has ls 3 [(0, .ref h), (1, .int p1)] := hl
  refine lv_aload_n hx hb dX1_nextPage_0 rfl (lv_at hl 0 rfl) ?_
  refine lv_iload_n hx hb dX1_nextPage_1 rfl (lv_at hl 1 rfl) ?_
  refine va_put (D := (dC, dI)) (ci := 1) (v := .int p1) (ty := .int) (C := RX1) (T := TX1) (N := 10) hx hb hts nX1_nextPage_X1 tyX1 tyX1_ok nmX1 hown hK hP hD hS 0 rfl rfl 6 (by decide) (hts _ mX1_nextPage_f61) (fun _ h9 => h9) rfl (by decide +kernel) rfl rfl (Nat.le_of_ble_eq_true rfl) dX1_nextPage_2 (fun H locs hP hD hS => ?_)
  rw [wd1_I6] at hP hD
  refine lv_aload_n hx hb dX1_nextPage_5 rfl (lv_at hl 0 rfl) ?_
  refine lv_aload_n hx hb dX1_nextPage_6 rfl (lv_at hl 0 rfl) ?_
  refine lv_iload_n hx hb dX1_nextPage_7 rfl (lv_at hl 1 rfl) ?_
  obtain ⟨Pc_1, hc, hq⟩ := hq
  refine w_calli (wf := fun u : (Nat → Int32) × (Nat → Nat → Int32) × (Nat) × (Nat) => wd1 cI h ad u.1 u.2.1 u.2.2.1 u.2.2.2) (va_runV (As := [.int p1]) (rest := [.ref h]) ⟨hx, hb, hml, hown, hts⟩ (tX1_pagesForA l dC dI cI h ad _ Pc_1 p1 (va_up I 6 p1) R q n hc) (cwV 1 hts gX1_nextPage_X1_pagesFor rfl rfl rfl (by decide +kernel) ⟨Nat.le_of_ble_eq_true rfl, Nat.le_of_ble_eq_true rfl⟩) (wPreV hK hP hD (ci := 1) (q0 := 0) rfl rfl) rfl rfl hl.1 rfl (lv_room (Nat.le_of_ble_eq_true rfl)) dX1_nextPage_8 ⟨Nat.le_of_ble_eq_true rfl, Nat.le_of_ble_eq_true rfl⟩) hD hS hA (fun rc_1 u H locs hp hP hD hS => ?_)
  obtain ⟨Ic_1, Rc_1, qc_1, nc_1⟩ := u
  have hq := hq rc_1 Ic_1 Rc_1 qc_1 nc_1 hp
  have hP : va_P (dC, dI) vwCl (wd1 cI h ad Ic_1 Rc_1 qc_1 nc_1) H := hP
  have hD : va_D A (wd1 cI h ad Ic_1 Rc_1 qc_1 nc_1) := hD
  refine lv_iconst (v := (1 : Int32)) hx hb dX1_nextPage_11 (by decide) ?_
  refine lv_isub hx hb dX1_nextPage_12 ?_
  refine va_put (D := (dC, dI)) (ci := 1) (v := .int (rc_1 - (1 : Int32))) (ty := .int) (C := RX1) (T := TX1) (N := 10) hx hb hts nX1_nextPage_X1 tyX1 tyX1_ok nmX1 hown hK hP hD hS 0 rfl rfl 7 (by decide) (hts _ mX1_nextPage_f64) (fun _ h9 => h9) rfl (by decide +kernel) rfl rfl (Nat.le_of_ble_eq_true rfl) dX1_nextPage_13 (fun H locs hP hD hS => ?_)
  rw [wd1_I7] at hP hD
  refine lv_aload_n hx hb dX1_nextPage_16 rfl (lv_at hl 0 rfl) ?_
  refine lv_iconst (v := (0 : Int32)) hx hb dX1_nextPage_17 (by decide) ?_
  refine va_put (D := (dC, dI)) (ci := 1) (v := .int (0 : Int32)) (ty := .int) (C := RX1) (T := TX1) (N := 10) hx hb hts nX1_nextPage_X1 tyX1 tyX1_ok nmX1 hown hK hP hD hS 0 rfl rfl 8 (by decide) (hts _ mX1_nextPage_f67) (fun _ h9 => h9) rfl (by decide +kernel) rfl rfl (Nat.le_of_ble_eq_true rfl) dX1_nextPage_18 (fun H locs hP hD hS => ?_)
  rw [wd1_I8] at hP hD
  refine lv_aload_n hx hb dX1_nextPage_21 rfl (lv_at hl 0 rfl) ?_
  refine lv_iconst (v := (0 : Int32)) hx hb dX1_nextPage_22 (by decide) ?_
  refine va_put (D := (dC, dI)) (ci := 1) (v := .int (0 : Int32)) (ty := .int) (C := RX1) (T := TX1) (N := 10) hx hb hts nX1_nextPage_X1 tyX1 tyX1_ok nmX1 hown hK hP hD hS 0 rfl rfl 9 (by decide) (hts _ mX1_nextPage_f70) (fun _ h9 => h9) rfl (by decide +kernel) rfl rfl (Nat.le_of_ble_eq_true rfl) dX1_nextPage_23 (fun H locs hP hD hS => ?_)
  rw [wd1_I9] at hP hD
  refine lv_iconst (v := (0 : Int32)) hx hb dX1_nextPage_26 (by decide) ?_
  refine lv_istore_n (lv' := [(2, .int (0 : Int32)), (0, .ref h), (1, .int p1)]) hx hb dX1_nextPage_27 rfl hl (by decide) rfl (fun ls hl => ?_)
  exact hq _ hZ _ _ ls hP hD hS (lv_sub hl [1, 2, 0] rfl)
def zX1_layOnto (post : (Nat → Int32) → (Nat → Nat → Int32) → Nat → Nat → Prop) (p1 : Int32) (p2 : Int32) (X5 : Int32 → Int32 → (Nat → Int32) → (Nat → Nat → Int32) → Nat → Nat → Prop) : Prop :=
  (∀ (x3 : Int32) (x4 : Int32) (I : Nat → Int32) (R : Nat → Nat → Int32) (q : Nat) (n : Nat), ((((I 3) ≤ x4) → (post I R q n)) ∧ ((¬ (I 3) ≤ x4) → (((((p1 >>> (x4 &&& 31)) &&& (1 : Int32)) = 0) → (X5 x3 (x4 + (1 : Int32)) I R q n)) ∧ ((¬ ((p1 >>> (x4 &&& 31)) &&& (1 : Int32)) = 0) → (∃ Pc_1 : Int32 → (Nat → Int32) → (Nat → Nat → Int32) → Nat → Nat → Prop, qX1_nextPage Pc_1 x3 I R q n ∧ (∀ (rc_1 : Int32) (Ic_1 : Nat → Int32) (Rc_1 : Nat → Nat → Int32) (qc_1 : Nat) (nc_1 : Nat), Pc_1 rc_1 Ic_1 Rc_1 qc_1 nc_1 → (vp_in x4 14 ∧ (∀ v_3 : Int32, v_3 = (upd (Rc_1 2) x4.toNatClampNeg rc_1) x4.toNatClampNeg → (∀ x3_4 : Int32, x3_4 = x3 &&& (v_3 ^^^ (-1 : Int32)) → (X5 x3_4 (x4 + (1 : Int32)) Ic_1 (va_up Rc_1 2 (upd (Rc_1 2) x4.toNatClampNeg rc_1)) qc_1 nc_1)))))))))) → X5 x3 x4 I R q n)
def qX1_layOnto_5 (post : (Nat → Int32) → (Nat → Nat → Int32) → Nat → Nat → Prop) (p1 : Int32) (p2 : Int32) (x3 : Int32) (x4 : Int32) (I : Nat → Int32) (R : Nat → Nat → Int32) (q : Nat) (n : Nat) : Prop := ∀ (X5 : Int32 → Int32 → (Nat → Int32) → (Nat → Nat → Int32) → Nat → Nat → Prop), zX1_layOnto post p1 p2 X5 → X5 x3 x4 I R q n
theorem kX1_layOnto_5 {post : (Nat → Int32) → (Nat → Nat → Int32) → Nat → Nat → Prop} {p1 : Int32} {p2 : Int32} {x3 : Int32} {x4 : Int32} {I : Nat → Int32} {R : Nat → Nat → Int32} {q : Nat} {n : Nat} (h : (((I 3) ≤ x4) → (post I R q n)) ∧ ((¬ (I 3) ≤ x4) → (((((p1 >>> (x4 &&& 31)) &&& (1 : Int32)) = 0) → (qX1_layOnto_5 post p1 p2 x3 (x4 + (1 : Int32)) I R q n)) ∧ ((¬ ((p1 >>> (x4 &&& 31)) &&& (1 : Int32)) = 0) → (∃ Pc_1 : Int32 → (Nat → Int32) → (Nat → Nat → Int32) → Nat → Nat → Prop, qX1_nextPage Pc_1 x3 I R q n ∧ (∀ (rc_1 : Int32) (Ic_1 : Nat → Int32) (Rc_1 : Nat → Nat → Int32) (qc_1 : Nat) (nc_1 : Nat), Pc_1 rc_1 Ic_1 Rc_1 qc_1 nc_1 → (vp_in x4 14 ∧ (∀ v_3 : Int32, v_3 = (upd (Rc_1 2) x4.toNatClampNeg rc_1) x4.toNatClampNeg → (∀ x3_4 : Int32, x3_4 = x3 &&& (v_3 ^^^ (-1 : Int32)) → (qX1_layOnto_5 post p1 p2 x3_4 (x4 + (1 : Int32)) Ic_1 (va_up Rc_1 2 (upd (Rc_1 2) x4.toNatClampNeg rc_1)) qc_1 nc_1)))))))))) : qX1_layOnto_5 post p1 p2 x3 x4 I R q n := by
  intro Z5 hcl
  refine hcl x3 x4 I R q n ?_
  refine ⟨fun c => ?_, fun c => ?_⟩
  · have h := h.1 c
    exact h
  · have h := h.2 c
    refine ⟨fun c => ?_, fun c => ?_⟩
    · have h := h.1 c
      exact h _ hcl
    · have h := h.2 c
      obtain ⟨P, h1, h2⟩ := h
      refine ⟨P, h1, fun b0 b1 b2 b3 b4 hp => ?_⟩
      have h := h2 b0 b1 b2 b3 b4 hp
      refine ⟨h.1, ?_⟩
      have h := h.2
      intro x e
      have h := h x e
      intro x e
      have h := h x e
      exact h _ hcl
def qX1_layOnto (post : (Nat → Int32) → (Nat → Nat → Int32) → Nat → Nat → Prop) (p1 : Int32) (p2 : Int32) (I : Nat → Int32) (R : Nat → Nat → Int32) (q : Nat) (n : Nat) : Prop := qX1_layOnto_5 post p1 p2 p2 (0 : Int32) I R q n
theorem mX1_layOnto_f25 : Cond.fieldLink RX1 25 "YearBook$Pages" "count" "I" ∈ wsX1_layOnto := by decide +kernel
theorem nX1_layOnto_X1 : ∀ w ∈ u_ws RX1 TX1 10, w ∈ wsX1_layOnto := by decide +kernel
theorem mX1_layOnto_f15 : Cond.fieldLink RX1 15 "YearBook$Pages" "sets" "[I" ∈ wsX1_layOnto := by decide +kernel
set_option maxHeartbeats 4000000 in
set_option maxRecDepth 100000 in
theorem tX1_layOnto (l : Launch) (dC : Nat → ClassId) (dI : Nat → Nat → Nat) (cI : ClassId) (h : Nat) (ad : Nat → Nat)  (sz : Nat) (post : (Nat → Int32) → (Nat → Nat → Int32) → Nat → Nat → Prop) (p1 : Int32) (p2 : Int32) (I : Nat → Int32) (R : Nat → Nat → Int32) (q : Nat) (n : Nat) (hq : qX1_layOnto post p1 p2 I R q n) : Met l yX1_layOnto wsX1_layOnto ({ frames := 26, cells := 0, slots := 0, locals := 676 } : Room) (va_Pc [.ref h, .int p1, .int p2] (wPre (dC, dI) vwCl [(cI, .int)] (wd1 cI h ad I R q n) sz)) (va_Qv (fun (u : (Nat → Int32) × (Nat → Nat → Int32) × (Nat) × (Nat)) => post u.1 u.2.1 u.2.2.1 u.2.2.2) (wAt (dC, dI) vwCl [(cI, .int)] (va_A (wd1 cI h ad I R q n) sz) (fun u : (Nat → Int32) × (Nat → Nat → Int32) × (Nat) × (Nat) => wd1 cI h ad u.1 u.2.1 u.2.2.1 u.2.2.2)) (va_A (wd1 cI h ad I R q n) sz)) 0 0 (va_A (wd1 cI h ad I R q n) sz) := by
  unfold qX1_layOnto at hq
  refine Met.ofW (cc := cX1_layOnto) (maxL := 5) (ret := none) (by decide) rfl ?_
  intro p e s m args below meth c s₁ B hml hv
  obtain ⟨rfl, hsz, hP, hK, hD0⟩ := hv
  have hx := B.exec
  have hb := B.bytes
  have hr := B.returns
  have hts := atoms_spec (ws := wsX1_layOnto) B.pre
  have hown : s.vm.findClass RX1 = some m.cls := findClass_of_methodNamed B.named
  have hlocks := B.notSynchronized
  subst hsz
  have hD := hD0.self (sz := s.heap.size)
  generalize hAe : va_A (wd1 cI h ad I R q n) s.heap.size = A at hD ⊢
  have hA : ∀ q : Nat, s.heap.size ≤ q → A q := fun q h => by rw [← hAe]; exact Or.inr h
  have hS : va_S A s.heap s.heap [] := va_S.rf
  have hZ : zX1_layOnto post p1 p2
      (fun (x3 : Int32) (x4 : Int32) (I : Nat → Int32) (R : Nat → Nat → Int32) (q : Nat) (n : Nat) => ∀ (H : Heap) (locs : List Loc) (ls : Array Slot), va_P (dC, dI) vwCl (wd1 cI h ad I R q n) H → va_D A (wd1 cI h ad I R q n) → va_S A s.heap H locs → lv_has ls 5 [(0, .ref h), (1, .int p1), (3, .int x3), (4, .int x4)] → W p l e (headSpec wsX1_layOnto ({ frames := 26, cells := 0, slots := 0, locals := 676 } : Room)).room s m ([.ref h, .int p1, .int p2] : List Value).toArray below meth c H locs 0 0 (MQ below (va_Qv (fun (u : (Nat → Int32) × (Nat → Nat → Int32) × (Nat) × (Nat)) => post u.1 u.2.1 u.2.2.1 u.2.2.2) (wAt (dC, dI) vwCl [(cI, .int)] A (fun u : (Nat → Int32) × (Nat → Nat → Int32) × (Nat) × (Nat) => wd1 cI h ad u.1 u.2.1 u.2.2.1 u.2.2.2)) A) ([.ref h, .int p1, .int p2] : List Value).toArray s 0 0 A) (F0 m 5 ls [])) := by
    unfold zX1_layOnto
    intro x3 x4 I R q n hq H locs ls hP hD hS hl
    refine lv_iload hx hb dX1_layOnto_5 (lv_at hl 3 rfl) ?_
    refine lv_aload_n hx hb dX1_layOnto_7 rfl (lv_at hl 0 rfl) ?_
    refine va_get (D := (dC, dI)) (ci := 1) (v := .int (I 3)) (C := RX1) (T := TX1) (N := 10) hx hb hts nX1_layOnto_X1 hown hK hP 0 rfl rfl 3 (by decide) (hts _ mX1_layOnto_f25) (fun _ h9 => h9) rfl dX1_layOnto_8 ?_
    refine lv_icmp_ge (tgt := 53) hx hb dX1_layOnto_11 (by decide) (fun hc => ?_) (fun hc => ?_)
    · have hq := hq.1 hc
      exact w_vret (post := fun (u : (Nat → Int32) × (Nat → Nat → Int32) × (Nat) × (Nat)) => post u.1 u.2.1 u.2.2.1 u.2.2.2) (wf := fun u : (Nat → Int32) × (Nat → Nat → Int32) × (Nat) × (Nat) => wd1 cI h ad u.1 u.2.1 u.2.2.1 u.2.2.2) (u := (I, R, q, n)) hx hb hr hK hP hD hS hq dX1_layOnto_53 hlocks
    · have hq := hq.2 hc
      refine lv_iload_n hx hb dX1_layOnto_14 rfl (lv_at hl 1 rfl) ?_
      refine lv_iload hx hb dX1_layOnto_15 (lv_at hl 3 rfl) ?_
      refine lv_ishr hx hb dX1_layOnto_17 ?_
      refine lv_iconst (v := (1 : Int32)) hx hb dX1_layOnto_18 (by decide) ?_
      refine lv_iand hx hb dX1_layOnto_19 ?_
      refine lv_if_eq (tgt := 47) hx hb dX1_layOnto_20 (by decide) (fun hc => ?_) (fun hc => ?_)
      · have hq := hq.1 hc
        refine lv_iinc (v := x4 + (1 : Int32)) (lv' := [(4, .int (x4 + (1 : Int32))), (0, .ref h), (1, .int p1), (3, .int x3)]) hx hb dX1_layOnto_47 hl (k := 3) rfl rfl (by decide) rfl (fun ls hl => ?_)
        refine lv_goto (tgt := 5) hx hb dX1_layOnto_50 (by decide) ?_
        exact hq _ _ ls hP hD hS (lv_sub hl [1, 2, 3, 0] rfl)
      · have hq := hq.2 hc
        refine lv_aload_n hx hb dX1_layOnto_23 rfl (lv_at hl 0 rfl) ?_
        refine va_get (D := (dC, dI)) (ci := 1) (v := .ref (ad 2)) (C := RX1) (T := TX1) (N := 10) hx hb hts nX1_layOnto_X1 hown hK hP 0 rfl rfl 2 (by decide) (hts _ mX1_layOnto_f15) (fun _ h9 => h9) rfl dX1_layOnto_24 ?_
        refine lv_iload hx hb dX1_layOnto_27 (lv_at hl 3 rfl) ?_
        refine lv_aload_n hx hb dX1_layOnto_29 rfl (lv_at hl 0 rfl) ?_
        refine lv_iload_n hx hb dX1_layOnto_30 rfl (lv_at hl 2 rfl) ?_
        obtain ⟨Pc_1, hc, hq⟩ := hq
        refine w_calli (wf := fun u : (Nat → Int32) × (Nat → Nat → Int32) × (Nat) × (Nat) => wd1 cI h ad u.1 u.2.1 u.2.2.1 u.2.2.2) (va_runV (As := [.int x3]) (rest := [.int x4, .ref (ad 2)]) ⟨hx, hb, hml, hown, hts⟩ (tX1_nextPage l dC dI cI h ad _ Pc_1 x3 I R q n hc) (cwV 1 hts gX1_layOnto_X1_nextPage rfl rfl rfl (by decide +kernel) ⟨Nat.le_of_ble_eq_true rfl, Nat.le_of_ble_eq_true rfl⟩) (wPreV hK hP hD (ci := 1) (q0 := 0) rfl rfl) rfl rfl hl.1 rfl (lv_room (Nat.le_of_ble_eq_true rfl)) dX1_layOnto_31 ⟨Nat.le_of_ble_eq_true rfl, Nat.le_of_ble_eq_true rfl⟩) hD hS hA (fun rc_1 u H locs hp hP hD hS => ?_)
        obtain ⟨Ic_1, Rc_1, qc_1, nc_1⟩ := u
        have hq := hq rc_1 Ic_1 Rc_1 qc_1 nc_1 hp
        have hP : va_P (dC, dI) vwCl (wd1 cI h ad Ic_1 Rc_1 qc_1 nc_1) H := hP
        have hD : va_D A (wd1 cI h ad Ic_1 Rc_1 qc_1 nc_1) := hD
        obtain ⟨hi_2, hq⟩ := hq
        refine va_iast (f := Rc_1 2) hx hb hK hP hD hS 2 0 rfl rfl hi_2 dX1_layOnto_34 (fun H locs hP hD hS => ?_)
        rw [wd1_R2] at hP hD
        refine lv_iload_n hx hb dX1_layOnto_35 rfl (lv_at hl 2 rfl) ?_
        refine lv_aload_n hx hb dX1_layOnto_36 rfl (lv_at hl 0 rfl) ?_
        refine va_get (D := (dC, dI)) (ci := 1) (v := .ref (ad 2)) (C := RX1) (T := TX1) (N := 10) hx hb hts nX1_layOnto_X1 hown hK hP 0 rfl rfl 2 (by decide) (hts _ mX1_layOnto_f15) (fun _ h9 => h9) rfl dX1_layOnto_37 ?_
        refine lv_iload hx hb dX1_layOnto_40 (lv_at hl 3 rfl) ?_
        refine va_iald (f := upd (Rc_1 2) x4.toNatClampNeg rc_1) hx hb hK hP 2 0 rfl rfl hi_2 dX1_layOnto_42 ?_
        refine lv_topi (fun v_3 ev_3 => ?_)
        have hq := hq v_3 ev_3
        refine lv_iconst (v := (-1 : Int32)) hx hb dX1_layOnto_43 (by decide) ?_
        refine lv_ixor hx hb dX1_layOnto_44 ?_
        refine lv_iand hx hb dX1_layOnto_45 ?_
        refine lv_topi (fun x3_4 ex3_4 => ?_)
        have hq := hq x3_4 ex3_4
        refine lv_istore_n (lv' := [(3, .int x3_4), (0, .ref h), (1, .int p1), (4, .int x4)]) hx hb dX1_layOnto_46 rfl hl (by decide) rfl (fun ls hl => ?_)
        refine lv_iinc (v := x4 + (1 : Int32)) (lv' := [(4, .int (x4 + (1 : Int32))), (3, .int x3_4), (0, .ref h), (1, .int p1)]) hx hb dX1_layOnto_47 hl (k := 3) rfl rfl (by decide) rfl (fun ls hl => ?_)
        refine lv_goto (tgt := 5) hx hb dX1_layOnto_50 (by decide) ?_
        exact hq _ _ ls hP hD hS (lv_sub hl [2, 3, 1, 0] rfl)
  have hl := lv_entry ([.ref h, .int p1, .int p2]) (n := 5) (Nat.le_of_ble_eq_true rfl)
  rw [lg_entry_eq]
  generalize (lg_sl ([.ref h, .int p1, .int p2]) ++ List.replicate (5 - (lg_sl ([.ref h, .int p1, .int p2])).length) Slot.unset).toArray = ls at hl ⊢
  have hl : lv_has ls 5 [(0, .ref h), (1, .int p1), (2, .int p2)] := hl
  refine lv_iload_n hx hb dX1_layOnto_0 rfl (lv_at hl 2 rfl) ?_
  refine lv_istore_n (lv' := [(3, .int p2), (0, .ref h), (1, .int p1), (2, .int p2)]) hx hb dX1_layOnto_1 rfl hl (by decide) rfl (fun ls hl => ?_)
  refine lv_iconst (v := (0 : Int32)) hx hb dX1_layOnto_2 (by decide) ?_
  refine lv_istore (lv' := [(4, .int (0 : Int32)), (3, .int p2), (0, .ref h), (1, .int p1), (2, .int p2)]) hx hb dX1_layOnto_3 hl (by decide) rfl (fun ls hl => ?_)
  exact hq _ hZ _ _ ls hP hD hS (lv_sub hl [2, 3, 1, 0] rfl)
def zX1_bringIn (mc : Nat) (ms : Nat) (post : Int32 → (Nat → Int32) → (Nat → Nat → Int32) → Nat → Nat → Prop) (p1 : Int32) (p2 : Int32) (X61 : Int32 → Int32 → Int32 → (Nat → Int32) → (Nat → Nat → Int32) → Nat → Nat → Nat → Nat → Prop) : Prop :=
  (∀ (x3 : Int32) (x4 : Int32) (x5 : Int32) (I : Nat → Int32) (R : Nat → Nat → Int32) (q : Nat) (n : Nat) (cs : Nat) (ss : Nat), ((((I 3) ≤ x5) → (∃ Pc_4 : (Nat → Int32) → (Nat → Nat → Int32) → Nat → Nat → Prop, qX1_layOnto Pc_4 x3 x4 I R q n ∧ (∀ (Ic_4 : Nat → Int32) (Rc_4 : Nat → Nat → Int32) (qc_4 : Nat) (nc_4 : Nat), Pc_4 Ic_4 Rc_4 qc_4 nc_4 → (∃ Pc_5 : Int32 → Prop, qJ6_bitCount_0f7a4 Pc_5 x3 ∧ (∀ (rc_5 : Int32), Pc_5 rc_5 → (post rc_5 Ic_4 Rc_4 qc_4 nc_4)))))) ∧ ((¬ (I 3) ≤ x5) → (((((x3 >>> (x5 &&& 31)) &&& (1 : Int32)) = 0) → (X61 x3 x4 (x5 + (1 : Int32)) I R q n cs ss)) ∧ ((¬ ((x3 >>> (x5 &&& 31)) &&& (1 : Int32)) = 0) → (vp_in x5 14 ∧ (∀ x4_7 : Int32, x4_7 = x4 ||| (R 2 x5.toNatClampNeg) → (X61 x3 x4_7 (x5 + (1 : Int32)) I R q n cs ss))))))) → X61 x3 x4 x5 I R q n cs ss)
def qX1_bringIn_61 (mc : Nat) (ms : Nat) (post : Int32 → (Nat → Int32) → (Nat → Nat → Int32) → Nat → Nat → Prop) (p1 : Int32) (p2 : Int32) (x3 : Int32) (x4 : Int32) (x5 : Int32) (I : Nat → Int32) (R : Nat → Nat → Int32) (q : Nat) (n : Nat) (cs : Nat) (ss : Nat) : Prop := ∀ (X61 : Int32 → Int32 → Int32 → (Nat → Int32) → (Nat → Nat → Int32) → Nat → Nat → Nat → Nat → Prop), zX1_bringIn mc ms post p1 p2 X61 → X61 x3 x4 x5 I R q n cs ss
theorem kX1_bringIn_61 {mc : Nat} {ms : Nat} {post : Int32 → (Nat → Int32) → (Nat → Nat → Int32) → Nat → Nat → Prop} {p1 : Int32} {p2 : Int32} {x3 : Int32} {x4 : Int32} {x5 : Int32} {I : Nat → Int32} {R : Nat → Nat → Int32} {q : Nat} {n : Nat} {cs : Nat} {ss : Nat} (h : (((I 3) ≤ x5) → (∃ Pc_4 : (Nat → Int32) → (Nat → Nat → Int32) → Nat → Nat → Prop, qX1_layOnto Pc_4 x3 x4 I R q n ∧ (∀ (Ic_4 : Nat → Int32) (Rc_4 : Nat → Nat → Int32) (qc_4 : Nat) (nc_4 : Nat), Pc_4 Ic_4 Rc_4 qc_4 nc_4 → (∃ Pc_5 : Int32 → Prop, qJ6_bitCount_0f7a4 Pc_5 x3 ∧ (∀ (rc_5 : Int32), Pc_5 rc_5 → (post rc_5 Ic_4 Rc_4 qc_4 nc_4)))))) ∧ ((¬ (I 3) ≤ x5) → (((((x3 >>> (x5 &&& 31)) &&& (1 : Int32)) = 0) → (qX1_bringIn_61 mc ms post p1 p2 x3 x4 (x5 + (1 : Int32)) I R q n cs ss)) ∧ ((¬ ((x3 >>> (x5 &&& 31)) &&& (1 : Int32)) = 0) → (vp_in x5 14 ∧ (∀ x4_7 : Int32, x4_7 = x4 ||| (R 2 x5.toNatClampNeg) → (qX1_bringIn_61 mc ms post p1 p2 x3 x4_7 (x5 + (1 : Int32)) I R q n cs ss))))))) : qX1_bringIn_61 mc ms post p1 p2 x3 x4 x5 I R q n cs ss := by
  intro Z61 hcl
  refine hcl x3 x4 x5 I R q n cs ss ?_
  refine ⟨fun c => ?_, fun c => ?_⟩
  · have h := h.1 c
    obtain ⟨P, h1, h2⟩ := h
    refine ⟨P, h1, fun b0 b1 b2 b3 hp => ?_⟩
    have h := h2 b0 b1 b2 b3 hp
    obtain ⟨P, h1, h2⟩ := h
    refine ⟨P, h1, fun b0 hp => ?_⟩
    have h := h2 b0 hp
    exact h
  · have h := h.2 c
    refine ⟨fun c => ?_, fun c => ?_⟩
    · have h := h.1 c
      exact h _ hcl
    · have h := h.2 c
      refine ⟨h.1, ?_⟩
      have h := h.2
      intro x e
      have h := h x e
      exact h _ hcl
def qX1_bringIn (mc : Nat) (ms : Nat) (post : Int32 → (Nat → Int32) → (Nat → Nat → Int32) → Nat → Nat → Prop) (p1 : Int32) (p2 : Int32) (I : Nat → Int32) (R : Nat → Nat → Int32) (q : Nat) (n : Nat) : Prop := ∃ (mc_1 kc_1 : Nat), (0 + mc_1 ≤ mc ∧ 0 + kc_1 ≤ ms) ∧ (∃ Pc_1 : Int32 → (Nat → Int32) → (Nat → Nat → Int32) → Nat → Nat → Prop, qX1_pagesToChange mc_1 kc_1 Pc_1 p1 I R q n ∧ (∀ (rc_1 : Int32) (Ic_1 : Nat → Int32) (Rc_1 : Nat → Nat → Int32) (qc_1 : Nat) (nc_1 : Nat), Pc_1 rc_1 Ic_1 Rc_1 qc_1 nc_1 → (((¬ rc_1 = 0) → (∀ x4_2 : Int32, x4_2 = (1 : Int32) <<< (p1 &&& 31) → (qX1_bringIn_61 mc ms post p1 p2 rc_1 x4_2 (0 : Int32) Ic_1 Rc_1 qc_1 nc_1 (0 + mc_1) (0 + kc_1)))) ∧ ((rc_1 = 0) → (((p2 ≤ (Ic_1 3)) → (post (-1 : Int32) Ic_1 Rc_1 qc_1 nc_1)) ∧ ((¬ p2 ≤ (Ic_1 3)) → ((((Ic_1 3) < (14 : Int32)) → (vp_in (Ic_1 3) 14 ∧ (post (1 : Int32) (va_up Ic_1 3 ((Ic_1 3) + (1 : Int32))) (va_up Rc_1 2 (upd (Rc_1 2) (Ic_1 3).toNatClampNeg ((1 : Int32) <<< (p1 &&& 31)))) qc_1 nc_1))) ∧ ((¬ (Ic_1 3) < (14 : Int32)) → (post (-1 : Int32) Ic_1 Rc_1 qc_1 nc_1)))))))))
theorem mX1_bringIn_f25 : Cond.fieldLink RX1 25 "YearBook$Pages" "count" "I" ∈ wsX1_bringIn := by decide +kernel
theorem nX1_bringIn_X1 : ∀ w ∈ u_ws RX1 TX1 10, w ∈ wsX1_bringIn := by decide +kernel
theorem mX1_bringIn_f15 : Cond.fieldLink RX1 15 "YearBook$Pages" "sets" "[I" ∈ wsX1_bringIn := by decide +kernel
set_option maxHeartbeats 4000000 in
set_option maxRecDepth 100000 in
theorem tX1_bringIn (l : Launch) (dC : Nat → ClassId) (dI : Nat → Nat → Nat) (cI : ClassId) (h : Nat) (ad : Nat → Nat)  (sz : Nat) (mc : Nat) (ms : Nat) (post : Int32 → (Nat → Int32) → (Nat → Nat → Int32) → Nat → Nat → Prop) (p1 : Int32) (p2 : Int32) (I : Nat → Int32) (R : Nat → Nat → Int32) (q : Nat) (n : Nat) (hq : qX1_bringIn mc ms post p1 p2 I R q n) : Met l yX1_bringIn wsX1_bringIn ({ frames := 27, cells := mc, slots := ms, locals := 700 } : Room) (va_Pc [.ref h, .int p1, .int p2] (wPre (dC, dI) vwCl [(cI, .int)] (wd1 cI h ad I R q n) sz)) (va_Qi (fun r (u : (Nat → Int32) × (Nat → Nat → Int32) × (Nat) × (Nat)) => post r u.1 u.2.1 u.2.2.1 u.2.2.2) (wAt (dC, dI) vwCl [(cI, .int)] (va_A (wd1 cI h ad I R q n) sz) (fun u : (Nat → Int32) × (Nat → Nat → Int32) × (Nat) × (Nat) => wd1 cI h ad u.1 u.2.1 u.2.2.1 u.2.2.2)) (va_A (wd1 cI h ad I R q n) sz)) mc ms (va_A (wd1 cI h ad I R q n) sz) := by
  unfold qX1_bringIn at hq
  refine Met.ofW (cc := cX1_bringIn) (maxL := 6) (ret := (some .int)) (by decide) rfl ?_
  intro p e s m args below meth c s₁ B hml hv
  obtain ⟨rfl, hsz, hP, hK, hD0⟩ := hv
  have hx := B.exec
  have hb := B.bytes
  have hr := B.returns
  have hts := atoms_spec (ws := wsX1_bringIn) B.pre
  have hown : s.vm.findClass RX1 = some m.cls := findClass_of_methodNamed B.named
  have hlocks := B.notSynchronized
  subst hsz
  have hD := hD0.self (sz := s.heap.size)
  generalize hAe : va_A (wd1 cI h ad I R q n) s.heap.size = A at hD ⊢
  have hA : ∀ q : Nat, s.heap.size ≤ q → A q := fun q h => by rw [← hAe]; exact Or.inr h
  have hS : va_S A s.heap s.heap [] := va_S.rf
  have hZ : zX1_bringIn mc ms post p1 p2
      (fun (x3 : Int32) (x4 : Int32) (x5 : Int32) (I : Nat → Int32) (R : Nat → Nat → Int32) (q : Nat) (n : Nat) (cs : Nat) (ss : Nat) => ∀ (H : Heap) (locs : List Loc) (ls : Array Slot), cs ≤ mc → ss ≤ ms → va_P (dC, dI) vwCl (wd1 cI h ad I R q n) H → va_D A (wd1 cI h ad I R q n) → va_S A s.heap H locs → lv_has ls 6 [(0, .ref h), (3, .int x3), (4, .int x4), (5, .int x5)] → W p l e (headSpec wsX1_bringIn ({ frames := 27, cells := mc, slots := ms, locals := 700 } : Room)).room s m ([.ref h, .int p1, .int p2] : List Value).toArray below meth c H locs cs ss (MQ below (va_Qi (fun r (u : (Nat → Int32) × (Nat → Nat → Int32) × (Nat) × (Nat)) => post r u.1 u.2.1 u.2.2.1 u.2.2.2) (wAt (dC, dI) vwCl [(cI, .int)] A (fun u : (Nat → Int32) × (Nat → Nat → Int32) × (Nat) × (Nat) => wd1 cI h ad u.1 u.2.1 u.2.2.1 u.2.2.2)) A) ([.ref h, .int p1, .int p2] : List Value).toArray s mc ms A) (F0 m 61 ls [])) := by
    unfold zX1_bringIn
    intro x3 x4 x5 I R q n cs ss hq H locs ls hcm hsm hP hD hS hl
    refine lv_iload hx hb dX1_bringIn_61 (lv_at hl 3 rfl) ?_
    refine lv_aload_n hx hb dX1_bringIn_63 rfl (lv_at hl 0 rfl) ?_
    refine va_get (D := (dC, dI)) (ci := 1) (v := .int (I 3)) (C := RX1) (T := TX1) (N := 10) hx hb hts nX1_bringIn_X1 hown hK hP 0 rfl rfl 3 (by decide) (hts _ mX1_bringIn_f25) (fun _ h9 => h9) rfl dX1_bringIn_64 ?_
    refine lv_icmp_ge (tgt := 97) hx hb dX1_bringIn_67 (by decide) (fun hc => ?_) (fun hc => ?_)
    · have hq := hq.1 hc
      refine lv_aload_n hx hb dX1_bringIn_97 rfl (lv_at hl 0 rfl) ?_
      refine lv_iload_n hx hb dX1_bringIn_98 rfl (lv_at hl 1 rfl) ?_
      refine lv_iload hx hb dX1_bringIn_99 (lv_at hl 2 rfl) ?_
      obtain ⟨Pc_4, hc, hq⟩ := hq
      refine w_callv (wf := fun u : (Nat → Int32) × (Nat → Nat → Int32) × (Nat) × (Nat) => wd1 cI h ad u.1 u.2.1 u.2.2.1 u.2.2.2) (va_runV (As := [.int x3, .int x4]) (rest := []) ⟨hx, hb, hml, hown, hts⟩ (tX1_layOnto l dC dI cI h ad _ Pc_4 x3 x4 I R q n hc) (cwV 2 hts gX1_bringIn_X1_layOnto rfl rfl rfl (by decide +kernel) ⟨Nat.le_of_ble_eq_true rfl, Nat.le_of_ble_eq_true rfl⟩) (wPreV hK hP hD (ci := 1) (q0 := 0) rfl rfl) rfl rfl hl.1 rfl (lv_room (Nat.le_of_ble_eq_true rfl)) dX1_bringIn_101 ⟨hcm, hsm⟩) hD hS hA (fun u H locs hp hP hD hS => ?_)
      obtain ⟨Ic_4, Rc_4, qc_4, nc_4⟩ := u
      have hq := hq Ic_4 Rc_4 qc_4 nc_4 hp
      have hP : va_P (dC, dI) vwCl (wd1 cI h ad Ic_4 Rc_4 qc_4 nc_4) H := hP
      have hD : va_D A (wd1 cI h ad Ic_4 Rc_4 qc_4 nc_4) := hD
      refine lv_iload_n hx hb dX1_bringIn_104 rfl (lv_at hl 1 rfl) ?_
      obtain ⟨Pc_5, hc, hq⟩ := hq
      refine vp_callSi (W.runS (As := [.int x3]) (rest := []) ⟨hx, hb, hml, hown, hts⟩ (tJ6_bitCount_0f7a4 l Pc_5 x3 hc) (va_cwS 1 hts gX1_bringIn_J6_bitCount_0f7a4 rfl rfl rfl (by decide +kernel) ⟨Nat.le_of_ble_eq_true rfl, Nat.le_of_ble_eq_true rfl⟩) preEq rfl rfl hl.1 rfl (lv_room (Nat.le_of_ble_eq_true rfl)) dX1_bringIn_105 ⟨hcm, hsm⟩) (fun rc_5 hp => ?_)
      have hq := hq rc_5 hp
      refine W.widen (k := mc) (n := ms) hcm hsm ?_
      exact w_iret (post := fun r (u : (Nat → Int32) × (Nat → Nat → Int32) × (Nat) × (Nat)) => post r u.1 u.2.1 u.2.2.1 u.2.2.2) (wf := fun u : (Nat → Int32) × (Nat → Nat → Int32) × (Nat) × (Nat) => wd1 cI h ad u.1 u.2.1 u.2.2.1 u.2.2.2) (u := (Ic_4, Rc_4, qc_4, nc_4)) hx hb hr hK hP hD hS hq dX1_bringIn_108 hlocks
    · have hq := hq.2 hc
      refine lv_iload_n hx hb dX1_bringIn_70 rfl (lv_at hl 1 rfl) ?_
      refine lv_iload hx hb dX1_bringIn_71 (lv_at hl 3 rfl) ?_
      refine lv_ishr hx hb dX1_bringIn_73 ?_
      refine lv_iconst (v := (1 : Int32)) hx hb dX1_bringIn_74 (by decide) ?_
      refine lv_iand hx hb dX1_bringIn_75 ?_
      refine lv_if_eq (tgt := 91) hx hb dX1_bringIn_76 (by decide) (fun hc => ?_) (fun hc => ?_)
      · have hq := hq.1 hc
        refine lv_iinc (v := x5 + (1 : Int32)) (lv' := [(5, .int (x5 + (1 : Int32))), (0, .ref h), (3, .int x3), (4, .int x4)]) hx hb dX1_bringIn_91 hl (k := 3) rfl rfl (by decide) rfl (fun ls hl => ?_)
        refine lv_goto (tgt := 61) hx hb dX1_bringIn_94 (by decide) ?_
        exact hq _ _ ls hcm hsm hP hD hS (lv_sub hl [1, 2, 3, 0] rfl)
      · have hq := hq.2 hc
        refine lv_iload hx hb dX1_bringIn_79 (lv_at hl 2 rfl) ?_
        refine lv_aload_n hx hb dX1_bringIn_81 rfl (lv_at hl 0 rfl) ?_
        refine va_get (D := (dC, dI)) (ci := 1) (v := .ref (ad 2)) (C := RX1) (T := TX1) (N := 10) hx hb hts nX1_bringIn_X1 hown hK hP 0 rfl rfl 2 (by decide) (hts _ mX1_bringIn_f15) (fun _ h9 => h9) rfl dX1_bringIn_82 ?_
        refine lv_iload hx hb dX1_bringIn_85 (lv_at hl 3 rfl) ?_
        obtain ⟨hi_6, hq⟩ := hq
        refine va_iald (f := R 2) hx hb hK hP 2 0 rfl rfl hi_6 dX1_bringIn_87 ?_
        refine lv_ior hx hb dX1_bringIn_88 ?_
        refine lv_topi (fun x4_7 ex4_7 => ?_)
        have hq := hq x4_7 ex4_7
        refine lv_istore (lv' := [(4, .int x4_7), (0, .ref h), (3, .int x3), (5, .int x5)]) hx hb dX1_bringIn_89 hl (by decide) rfl (fun ls hl => ?_)
        refine lv_iinc (v := x5 + (1 : Int32)) (lv' := [(5, .int (x5 + (1 : Int32))), (4, .int x4_7), (0, .ref h), (3, .int x3)]) hx hb dX1_bringIn_91 hl (k := 3) rfl rfl (by decide) rfl (fun ls hl => ?_)
        refine lv_goto (tgt := 61) hx hb dX1_bringIn_94 (by decide) ?_
        exact hq _ _ ls hcm hsm hP hD hS (lv_sub hl [2, 3, 1, 0] rfl)
  have hl := lv_entry ([.ref h, .int p1, .int p2]) (n := 6) (Nat.le_of_ble_eq_true rfl)
  rw [lg_entry_eq]
  generalize (lg_sl ([.ref h, .int p1, .int p2]) ++ List.replicate (6 - (lg_sl ([.ref h, .int p1, .int p2])).length) Slot.unset).toArray = ls at hl ⊢
  have hl : lv_has ls 6 [(0, .ref h), (1, .int p1), (2, .int p2)] := hl
  have hcm : 0 ≤ mc := Nat.zero_le _
  have hsm : 0 ≤ ms := Nat.zero_le _
  refine lv_aload_n hx hb dX1_bringIn_0 rfl (lv_at hl 0 rfl) ?_
  refine lv_iload_n hx hb dX1_bringIn_1 rfl (lv_at hl 1 rfl) ?_
  obtain ⟨mc_1, kc_1, ⟨hcm, hsm⟩, Pc_1, hc, hq⟩ := hq
  refine w_calli (wf := fun u : (Nat → Int32) × (Nat → Nat → Int32) × (Nat) × (Nat) => wd1 cI h ad u.1 u.2.1 u.2.2.1 u.2.2.2) (va_runV (As := [.int p1]) (rest := []) ⟨hx, hb, hml, hown, hts⟩ (tX1_pagesToChange l dC dI cI h ad _ mc_1 kc_1 Pc_1 p1 I R q n hc) (cwV 1 hts gX1_bringIn_X1_pagesToChange rfl rfl rfl (by decide +kernel) ⟨Nat.le_of_ble_eq_true rfl, Nat.le_of_ble_eq_true rfl⟩) (wPreV hK hP hD (ci := 1) (q0 := 0) rfl rfl) rfl rfl hl.1 rfl (lv_room (Nat.le_of_ble_eq_true rfl)) dX1_bringIn_2 ⟨hcm, hsm⟩) hD hS hA (fun rc_1 u H locs hp hP hD hS => ?_)
  obtain ⟨Ic_1, Rc_1, qc_1, nc_1⟩ := u
  have hq := hq rc_1 Ic_1 Rc_1 qc_1 nc_1 hp
  have hP : va_P (dC, dI) vwCl (wd1 cI h ad Ic_1 Rc_1 qc_1 nc_1) H := hP
  have hD : va_D A (wd1 cI h ad Ic_1 Rc_1 qc_1 nc_1) := hD
  refine lv_istore_n (lv' := [(3, .int rc_1), (0, .ref h), (1, .int p1), (2, .int p2)]) hx hb dX1_bringIn_5 rfl hl (by decide) rfl (fun ls hl => ?_)
  refine lv_iload_n hx hb dX1_bringIn_6 rfl (lv_at hl 0 rfl) ?_
  refine lv_if_ne (tgt := 53) hx hb dX1_bringIn_7 (by decide) (fun hc => ?_) (fun hc => ?_)
  · have hq := hq.1 hc
    refine lv_iconst (v := (1 : Int32)) hx hb dX1_bringIn_53 (by decide) ?_
    refine lv_iload_n hx hb dX1_bringIn_54 rfl (lv_at hl 2 rfl) ?_
    refine lv_ishl hx hb dX1_bringIn_55 ?_
    refine lv_topi (fun x4_2 ex4_2 => ?_)
    have hq := hq x4_2 ex4_2
    refine lv_istore (lv' := [(4, .int x4_2), (3, .int rc_1), (0, .ref h), (1, .int p1), (2, .int p2)]) hx hb dX1_bringIn_56 hl (by decide) rfl (fun ls hl => ?_)
    refine lv_iconst (v := (0 : Int32)) hx hb dX1_bringIn_58 (by decide) ?_
    refine lv_istore (lv' := [(5, .int (0 : Int32)), (4, .int x4_2), (3, .int rc_1), (0, .ref h), (1, .int p1), (2, .int p2)]) hx hb dX1_bringIn_59 hl (by decide) rfl (fun ls hl => ?_)
    exact hq _ hZ _ _ ls hcm hsm hP hD hS (lv_sub hl [3, 2, 1, 0] rfl)
  · have hq := hq.2 hc
    refine lv_aload_n hx hb dX1_bringIn_10 rfl (lv_at hl 1 rfl) ?_
    refine va_get (D := (dC, dI)) (ci := 1) (v := .int (Ic_1 3)) (C := RX1) (T := TX1) (N := 10) hx hb hts nX1_bringIn_X1 hown hK hP 0 rfl rfl 3 (by decide) (hts _ mX1_bringIn_f25) (fun _ h9 => h9) rfl dX1_bringIn_11 ?_
    refine lv_iload_n hx hb dX1_bringIn_14 rfl (lv_at hl 3 rfl) ?_
    refine lv_icmp_ge (tgt := 27) hx hb dX1_bringIn_15 (by decide) (fun hc => ?_) (fun hc => ?_)
    · have hq := hq.1 hc
      refine lv_iconst (v := (-1 : Int32)) hx hb dX1_bringIn_27 (by decide) ?_
      refine W.widen (k := mc) (n := ms) hcm hsm ?_
      exact w_iret (post := fun r (u : (Nat → Int32) × (Nat → Nat → Int32) × (Nat) × (Nat)) => post r u.1 u.2.1 u.2.2.1 u.2.2.2) (wf := fun u : (Nat → Int32) × (Nat → Nat → Int32) × (Nat) × (Nat) => wd1 cI h ad u.1 u.2.1 u.2.2.1 u.2.2.2) (u := (Ic_1, Rc_1, qc_1, nc_1)) hx hb hr hK hP hD hS hq dX1_bringIn_28 hlocks
    · have hq := hq.2 hc
      refine lv_aload_n hx hb dX1_bringIn_18 rfl (lv_at hl 1 rfl) ?_
      refine va_get (D := (dC, dI)) (ci := 1) (v := .int (Ic_1 3)) (C := RX1) (T := TX1) (N := 10) hx hb hts nX1_bringIn_X1 hown hK hP 0 rfl rfl 3 (by decide) (hts _ mX1_bringIn_f25) (fun _ h9 => h9) rfl dX1_bringIn_19 ?_
      refine lv_bipush (v := (14 : Int32)) hx hb dX1_bringIn_22 (by decide) ?_
      refine lv_icmp_lt (tgt := 29) hx hb dX1_bringIn_24 (by decide) (fun hc => ?_) (fun hc => ?_)
      · have hq := hq.1 hc
        refine lv_aload_n hx hb dX1_bringIn_29 rfl (lv_at hl 1 rfl) ?_
        refine va_get (D := (dC, dI)) (ci := 1) (v := .ref (ad 2)) (C := RX1) (T := TX1) (N := 10) hx hb hts nX1_bringIn_X1 hown hK hP 0 rfl rfl 2 (by decide) (hts _ mX1_bringIn_f15) (fun _ h9 => h9) rfl dX1_bringIn_30 ?_
        refine lv_aload_n hx hb dX1_bringIn_33 rfl (lv_at hl 1 rfl) ?_
        refine va_get (D := (dC, dI)) (ci := 1) (v := .int (Ic_1 3)) (C := RX1) (T := TX1) (N := 10) hx hb hts nX1_bringIn_X1 hown hK hP 0 rfl rfl 3 (by decide) (hts _ mX1_bringIn_f25) (fun _ h9 => h9) rfl dX1_bringIn_34 ?_
        refine lv_iconst (v := (1 : Int32)) hx hb dX1_bringIn_37 (by decide) ?_
        refine lv_iload_n hx hb dX1_bringIn_38 rfl (lv_at hl 2 rfl) ?_
        refine lv_ishl hx hb dX1_bringIn_39 ?_
        obtain ⟨hi_3, hq⟩ := hq
        refine va_iast (f := Rc_1 2) hx hb hK hP hD hS 2 0 rfl rfl hi_3 dX1_bringIn_40 (fun H locs hP hD hS => ?_)
        rw [wd1_R2] at hP hD
        refine lv_aload_n hx hb dX1_bringIn_41 rfl (lv_at hl 1 rfl) ?_
        refine lv_dup hx hb dX1_bringIn_42 rfl ?_
        refine va_get (D := (dC, dI)) (ci := 1) (v := .int (Ic_1 3)) (C := RX1) (T := TX1) (N := 10) hx hb hts nX1_bringIn_X1 hown hK hP 0 rfl rfl 3 (by decide) (hts _ mX1_bringIn_f25) (fun _ h9 => h9) rfl dX1_bringIn_43 ?_
        refine lv_iconst (v := (1 : Int32)) hx hb dX1_bringIn_46 (by decide) ?_
        refine lv_iadd hx hb dX1_bringIn_47 ?_
        refine va_put (D := (dC, dI)) (ci := 1) (v := .int ((Ic_1 3) + (1 : Int32))) (ty := .int) (C := RX1) (T := TX1) (N := 10) hx hb hts nX1_bringIn_X1 tyX1 tyX1_ok nmX1 hown hK hP hD hS 0 rfl rfl 3 (by decide) (hts _ mX1_bringIn_f25) (fun _ h9 => h9) rfl (by decide +kernel) rfl rfl (Nat.le_of_ble_eq_true rfl) dX1_bringIn_48 (fun H locs hP hD hS => ?_)
        rw [wd1_I3] at hP hD
        refine lv_iconst (v := (1 : Int32)) hx hb dX1_bringIn_51 (by decide) ?_
        refine W.widen (k := mc) (n := ms) hcm hsm ?_
        exact w_iret (post := fun r (u : (Nat → Int32) × (Nat → Nat → Int32) × (Nat) × (Nat)) => post r u.1 u.2.1 u.2.2.1 u.2.2.2) (wf := fun u : (Nat → Int32) × (Nat → Nat → Int32) × (Nat) × (Nat) => wd1 cI h ad u.1 u.2.1 u.2.2.1 u.2.2.2) (u := (va_up Ic_1 3 ((Ic_1 3) + (1 : Int32)), va_up Rc_1 2 (upd (Rc_1 2) (Ic_1 3).toNatClampNeg ((1 : Int32) <<< (p1 &&& 31))), qc_1, nc_1)) hx hb hr hK hP hD hS hq dX1_bringIn_52 hlocks
      · have hq := hq.2 hc
        refine lv_iconst (v := (-1 : Int32)) hx hb dX1_bringIn_27 (by decide) ?_
        refine W.widen (k := mc) (n := ms) hcm hsm ?_
        exact w_iret (post := fun r (u : (Nat → Int32) × (Nat → Nat → Int32) × (Nat) × (Nat)) => post r u.1 u.2.1 u.2.2.1 u.2.2.2) (wf := fun u : (Nat → Int32) × (Nat → Nat → Int32) × (Nat) × (Nat) => wd1 cI h ad u.1 u.2.1 u.2.2.1 u.2.2.2) (u := (Ic_1, Rc_1, qc_1, nc_1)) hx hb hr hK hP hD hS hq dX1_bringIn_28 hlocks
def qX1_clear (post : (Nat → Int32) → (Nat → Nat → Int32) → Nat → Nat → Prop) (I : Nat → Int32) (R : Nat → Nat → Int32) (q : Nat) (n : Nat) : Prop := post (va_up I 3 (0 : Int32)) R q n
theorem mX1_clear_f25 : Cond.fieldLink RX1 25 "YearBook$Pages" "count" "I" ∈ wsX1_clear := by decide +kernel
theorem nX1_clear_X1 : ∀ w ∈ u_ws RX1 TX1 10, w ∈ wsX1_clear := by decide +kernel
set_option maxHeartbeats 4000000 in
set_option maxRecDepth 100000 in
theorem tX1_clear (l : Launch) (dC : Nat → ClassId) (dI : Nat → Nat → Nat) (cI : ClassId) (h : Nat) (ad : Nat → Nat)  (sz : Nat) (post : (Nat → Int32) → (Nat → Nat → Int32) → Nat → Nat → Prop) (I : Nat → Int32) (R : Nat → Nat → Int32) (q : Nat) (n : Nat) (hq : qX1_clear post I R q n) : Met l yX1_clear wsX1_clear ({ frames := 0, cells := 0, slots := 0, locals := 0 } : Room) (va_Pc [.ref h] (wPre (dC, dI) vwCl [(cI, .int)] (wd1 cI h ad I R q n) sz)) (va_Qv (fun (u : (Nat → Int32) × (Nat → Nat → Int32) × (Nat) × (Nat)) => post u.1 u.2.1 u.2.2.1 u.2.2.2) (wAt (dC, dI) vwCl [(cI, .int)] (va_A (wd1 cI h ad I R q n) sz) (fun u : (Nat → Int32) × (Nat → Nat → Int32) × (Nat) × (Nat) => wd1 cI h ad u.1 u.2.1 u.2.2.1 u.2.2.2)) (va_A (wd1 cI h ad I R q n) sz)) 0 0 (va_A (wd1 cI h ad I R q n) sz) := by
  unfold qX1_clear at hq
  refine Met.ofW (cc := cX1_clear) (maxL := 1) (ret := none) (by decide) rfl ?_
  intro p e s m args below meth c s₁ B hml hv
  obtain ⟨rfl, hsz, hP, hK, hD0⟩ := hv
  have hx := B.exec
  have hb := B.bytes
  have hr := B.returns
  have hts := atoms_spec (ws := wsX1_clear) B.pre
  have hown : s.vm.findClass RX1 = some m.cls := findClass_of_methodNamed B.named
  have hlocks := B.notSynchronized
  subst hsz
  have hD := hD0.self (sz := s.heap.size)
  generalize hAe : va_A (wd1 cI h ad I R q n) s.heap.size = A at hD ⊢
  have hA : ∀ q : Nat, s.heap.size ≤ q → A q := fun q h => by rw [← hAe]; exact Or.inr h
  have hS : va_S A s.heap s.heap [] := va_S.rf
  have hl := lv_entry ([.ref h]) (n := 1) (Nat.le_of_ble_eq_true rfl)
  rw [lg_entry_eq]
  generalize (lg_sl ([.ref h]) ++ List.replicate (1 - (lg_sl ([.ref h])).length) Slot.unset).toArray = ls at hl ⊢
  have hl : lv_has ls 1 [(0, .ref h)] := hl
  refine lv_aload_n hx hb dX1_clear_0 rfl (lv_at hl 0 rfl) ?_
  refine lv_iconst (v := (0 : Int32)) hx hb dX1_clear_1 (by decide) ?_
  refine va_put (D := (dC, dI)) (ci := 1) (v := .int (0 : Int32)) (ty := .int) (C := RX1) (T := TX1) (N := 10) hx hb hts nX1_clear_X1 tyX1 tyX1_ok nmX1 hown hK hP hD hS 0 rfl rfl 3 (by decide) (hts _ mX1_clear_f25) (fun _ h9 => h9) rfl (by decide +kernel) rfl rfl (Nat.le_of_ble_eq_true rfl) dX1_clear_2 (fun H locs hP hD hS => ?_)
  rw [wd1_I3] at hP hD
  exact w_vret (post := fun (u : (Nat → Int32) × (Nat → Nat → Int32) × (Nat) × (Nat)) => post u.1 u.2.1 u.2.2.1 u.2.2.2) (wf := fun u : (Nat → Int32) × (Nat → Nat → Int32) × (Nat) × (Nat) => wd1 cI h ad u.1 u.2.1 u.2.2.1 u.2.2.2) (u := (va_up I 3 (0 : Int32), R, q, n)) hx hb hr hK hP hD hS hq dX1_clear_5 hlocks
def qX1_has (post : Int32 → Prop) (p1 : Int32) (I : Nat → Int32) (R : Nat → Nat → Int32) (q : Nat) (n : Nat) : Prop := ((p1 < 0) → (post (0 : Int32))) ∧ ((¬ p1 < 0) → ((((I 3) ≤ p1) → (post (0 : Int32))) ∧ ((¬ (I 3) ≤ p1) → (post (1 : Int32)))))
theorem mX1_has_f25 : Cond.fieldLink RX1 25 "YearBook$Pages" "count" "I" ∈ wsX1_has := by decide +kernel
theorem nX1_has_X1 : ∀ w ∈ u_ws RX1 TX1 10, w ∈ wsX1_has := by decide +kernel
set_option maxHeartbeats 4000000 in
set_option maxRecDepth 100000 in
theorem tX1_has (l : Launch) (dC : Nat → ClassId) (dI : Nat → Nat → Nat) (cI : ClassId) (h : Nat) (ad : Nat → Nat)  (sz : Nat) (post : Int32 → Prop) (p1 : Int32) (I : Nat → Int32) (R : Nat → Nat → Int32) (q : Nat) (n : Nat) (hq : qX1_has post p1 I R q n) : Met l yX1_has wsX1_has ({ frames := 0, cells := 0, slots := 0, locals := 0 } : Room) (va_Pc [.ref h, .int p1] (wPre (dC, dI) vwCl [(cI, .int)] (wd1 cI h ad I R q n) sz)) (va_Qi (fun r (_ : Unit) => post r ) (wAt (dC, dI) vwCl [(cI, .int)] (va_A (wd1 cI h ad I R q n) sz) (fun _ : Unit => wd1 cI h ad I R q n)) (va_A (wd1 cI h ad I R q n) sz)) 0 0 (va_A (wd1 cI h ad I R q n) sz) := by
  unfold qX1_has at hq
  refine Met.ofW (cc := cX1_has) (maxL := 2) (ret := (some .boolean)) (by decide) rfl ?_
  intro p e s m args below meth c s₁ B hml hv
  obtain ⟨rfl, hsz, hP, hK, hD0⟩ := hv
  have hx := B.exec
  have hb := B.bytes
  have hr := B.returns
  have hts := atoms_spec (ws := wsX1_has) B.pre
  have hown : s.vm.findClass RX1 = some m.cls := findClass_of_methodNamed B.named
  have hlocks := B.notSynchronized
  subst hsz
  have hD := hD0.self (sz := s.heap.size)
  generalize hAe : va_A (wd1 cI h ad I R q n) s.heap.size = A at hD ⊢
  have hA : ∀ q : Nat, s.heap.size ≤ q → A q := fun q h => by rw [← hAe]; exact Or.inr h
  have hS : va_S A s.heap s.heap [] := va_S.rf
  have hl := lv_entry ([.ref h, .int p1]) (n := 2) (Nat.le_of_ble_eq_true rfl)
  rw [lg_entry_eq]
  generalize (lg_sl ([.ref h, .int p1]) ++ List.replicate (2 - (lg_sl ([.ref h, .int p1])).length) Slot.unset).toArray = ls at hl ⊢
  have hl : lv_has ls 2 [(0, .ref h), (1, .int p1)] := hl
  refine lv_iload_n hx hb dX1_has_0 rfl (lv_at hl 1 rfl) ?_
  refine lv_if_lt (tgt := 16) hx hb dX1_has_1 (by decide) (fun hc => ?_) (fun hc => ?_)
  · have hq := hq.1 hc
    refine lv_iconst (v := (0 : Int32)) hx hb dX1_has_16 (by decide) ?_
    exact w_zret (post := fun r (_ : Unit) => post r ) (wf := fun _ : Unit => wd1 cI h ad I R q n) (u := ()) hx hb hr rfl hK hP hD hS hq dX1_has_17 hlocks
  · have hq := hq.2 hc
    refine lv_iload_n hx hb dX1_has_4 rfl (lv_at hl 1 rfl) ?_
    refine lv_aload_n hx hb dX1_has_5 rfl (lv_at hl 0 rfl) ?_
    refine va_get (D := (dC, dI)) (ci := 1) (v := .int (I 3)) (C := RX1) (T := TX1) (N := 10) hx hb hts nX1_has_X1 hown hK hP 0 rfl rfl 3 (by decide) (hts _ mX1_has_f25) (fun _ h9 => h9) rfl dX1_has_6 ?_
    refine lv_icmp_ge (tgt := 16) hx hb dX1_has_9 (by decide) (fun hc => ?_) (fun hc => ?_)
    · have hq := hq.1 hc
      refine lv_iconst (v := (0 : Int32)) hx hb dX1_has_16 (by decide) ?_
      exact w_zret (post := fun r (_ : Unit) => post r ) (wf := fun _ : Unit => wd1 cI h ad I R q n) (u := ()) hx hb hr rfl hK hP hD hS hq dX1_has_17 hlocks
    · have hq := hq.2 hc
      refine lv_iconst (v := (1 : Int32)) hx hb dX1_has_12 (by decide) ?_
      refine lv_goto (tgt := 17) hx hb dX1_has_13 (by decide) ?_
      exact w_zret (post := fun r (_ : Unit) => post r ) (wf := fun _ : Unit => wd1 cI h ad I R q n) (u := ()) hx hb hr rfl hK hP hD hS hq dX1_has_17 hlocks
def qX1_hearOf (post : (Nat → Int32) → (Nat → Nat → Int32) → Nat → Nat → Prop) (p1 : Int32) (I : Nat → Int32) (R : Nat → Nat → Int32) (q : Nat) (n : Nat) : Prop := (((14 : Int32) ≤ (I 1)) → (post I R q n)) ∧ ((¬ (14 : Int32) ≤ (I 1)) → (vp_in (I 1) 14 ∧ (post (va_up I 1 ((I 1) + (1 : Int32))) (va_up R 0 (upd (R 0) (I 1).toNatClampNeg p1)) q n)))
theorem mX1_hearOf_f21 : Cond.fieldLink RX1 21 "YearBook$Pages" "pictures" "I" ∈ wsX1_hearOf := by decide +kernel
theorem nX1_hearOf_X1 : ∀ w ∈ u_ws RX1 TX1 10, w ∈ wsX1_hearOf := by decide +kernel
theorem mX1_hearOf_f9 : Cond.fieldLink RX1 9 "YearBook$Pages" "sizes" "[I" ∈ wsX1_hearOf := by decide +kernel
set_option maxHeartbeats 4000000 in
set_option maxRecDepth 100000 in
theorem tX1_hearOf (l : Launch) (dC : Nat → ClassId) (dI : Nat → Nat → Nat) (cI : ClassId) (h : Nat) (ad : Nat → Nat)  (sz : Nat) (post : (Nat → Int32) → (Nat → Nat → Int32) → Nat → Nat → Prop) (p1 : Int32) (I : Nat → Int32) (R : Nat → Nat → Int32) (q : Nat) (n : Nat) (hq : qX1_hearOf post p1 I R q n) : Met l yX1_hearOf wsX1_hearOf ({ frames := 0, cells := 0, slots := 0, locals := 0 } : Room) (va_Pc [.ref h, .int p1] (wPre (dC, dI) vwCl [(cI, .int)] (wd1 cI h ad I R q n) sz)) (va_Qv (fun (u : (Nat → Int32) × (Nat → Nat → Int32) × (Nat) × (Nat)) => post u.1 u.2.1 u.2.2.1 u.2.2.2) (wAt (dC, dI) vwCl [(cI, .int)] (va_A (wd1 cI h ad I R q n) sz) (fun u : (Nat → Int32) × (Nat → Nat → Int32) × (Nat) × (Nat) => wd1 cI h ad u.1 u.2.1 u.2.2.1 u.2.2.2)) (va_A (wd1 cI h ad I R q n) sz)) 0 0 (va_A (wd1 cI h ad I R q n) sz) := by
  unfold qX1_hearOf at hq
  refine Met.ofW (cc := cX1_hearOf) (maxL := 2) (ret := none) (by decide) rfl ?_
  intro p e s m args below meth c s₁ B hml hv
  obtain ⟨rfl, hsz, hP, hK, hD0⟩ := hv
  have hx := B.exec
  have hb := B.bytes
  have hr := B.returns
  have hts := atoms_spec (ws := wsX1_hearOf) B.pre
  have hown : s.vm.findClass RX1 = some m.cls := findClass_of_methodNamed B.named
  have hlocks := B.notSynchronized
  subst hsz
  have hD := hD0.self (sz := s.heap.size)
  generalize hAe : va_A (wd1 cI h ad I R q n) s.heap.size = A at hD ⊢
  have hA : ∀ q : Nat, s.heap.size ≤ q → A q := fun q h => by rw [← hAe]; exact Or.inr h
  have hS : va_S A s.heap s.heap [] := va_S.rf
  have hl := lv_entry ([.ref h, .int p1]) (n := 2) (Nat.le_of_ble_eq_true rfl)
  rw [lg_entry_eq]
  generalize (lg_sl ([.ref h, .int p1]) ++ List.replicate (2 - (lg_sl ([.ref h, .int p1])).length) Slot.unset).toArray = ls at hl ⊢
  have hl : lv_has ls 2 [(0, .ref h), (1, .int p1)] := hl
  refine lv_aload_n hx hb dX1_hearOf_0 rfl (lv_at hl 0 rfl) ?_
  refine va_get (D := (dC, dI)) (ci := 1) (v := .int (I 1)) (C := RX1) (T := TX1) (N := 10) hx hb hts nX1_hearOf_X1 hown hK hP 0 rfl rfl 1 (by decide) (hts _ mX1_hearOf_f21) (fun _ h9 => h9) rfl dX1_hearOf_1 ?_
  refine lv_bipush (v := (14 : Int32)) hx hb dX1_hearOf_4 (by decide) ?_
  refine lv_icmp_ge (tgt := 29) hx hb dX1_hearOf_6 (by decide) (fun hc => ?_) (fun hc => ?_)
  · have hq := hq.1 hc
    exact w_vret (post := fun (u : (Nat → Int32) × (Nat → Nat → Int32) × (Nat) × (Nat)) => post u.1 u.2.1 u.2.2.1 u.2.2.2) (wf := fun u : (Nat → Int32) × (Nat → Nat → Int32) × (Nat) × (Nat) => wd1 cI h ad u.1 u.2.1 u.2.2.1 u.2.2.2) (u := (I, R, q, n)) hx hb hr hK hP hD hS hq dX1_hearOf_29 hlocks
  · have hq := hq.2 hc
    refine lv_aload_n hx hb dX1_hearOf_9 rfl (lv_at hl 0 rfl) ?_
    refine va_get (D := (dC, dI)) (ci := 1) (v := .ref (ad 0)) (C := RX1) (T := TX1) (N := 10) hx hb hts nX1_hearOf_X1 hown hK hP 0 rfl rfl 0 (by decide) (hts _ mX1_hearOf_f9) (fun _ h9 => h9) rfl dX1_hearOf_10 ?_
    refine lv_aload_n hx hb dX1_hearOf_13 rfl (lv_at hl 0 rfl) ?_
    refine va_get (D := (dC, dI)) (ci := 1) (v := .int (I 1)) (C := RX1) (T := TX1) (N := 10) hx hb hts nX1_hearOf_X1 hown hK hP 0 rfl rfl 1 (by decide) (hts _ mX1_hearOf_f21) (fun _ h9 => h9) rfl dX1_hearOf_14 ?_
    refine lv_iload_n hx hb dX1_hearOf_17 rfl (lv_at hl 1 rfl) ?_
    obtain ⟨hi_1, hq⟩ := hq
    refine va_iast (f := R 0) hx hb hK hP hD hS 1 0 rfl rfl hi_1 dX1_hearOf_18 (fun H locs hP hD hS => ?_)
    rw [wd1_R0] at hP hD
    refine lv_aload_n hx hb dX1_hearOf_19 rfl (lv_at hl 0 rfl) ?_
    refine lv_dup hx hb dX1_hearOf_20 rfl ?_
    refine va_get (D := (dC, dI)) (ci := 1) (v := .int (I 1)) (C := RX1) (T := TX1) (N := 10) hx hb hts nX1_hearOf_X1 hown hK hP 0 rfl rfl 1 (by decide) (hts _ mX1_hearOf_f21) (fun _ h9 => h9) rfl dX1_hearOf_21 ?_
    refine lv_iconst (v := (1 : Int32)) hx hb dX1_hearOf_24 (by decide) ?_
    refine lv_iadd hx hb dX1_hearOf_25 ?_
    refine va_put (D := (dC, dI)) (ci := 1) (v := .int ((I 1) + (1 : Int32))) (ty := .int) (C := RX1) (T := TX1) (N := 10) hx hb hts nX1_hearOf_X1 tyX1 tyX1_ok nmX1 hown hK hP hD hS 0 rfl rfl 1 (by decide) (hts _ mX1_hearOf_f21) (fun _ h9 => h9) rfl (by decide +kernel) rfl rfl (Nat.le_of_ble_eq_true rfl) dX1_hearOf_26 (fun H locs hP hD hS => ?_)
    rw [wd1_I1] at hP hD
    exact w_vret (post := fun (u : (Nat → Int32) × (Nat → Nat → Int32) × (Nat) × (Nat)) => post u.1 u.2.1 u.2.2.1 u.2.2.2) (wf := fun u : (Nat → Int32) × (Nat → Nat → Int32) × (Nat) × (Nat) => wd1 cI h ad u.1 u.2.1 u.2.2.1 u.2.2.2) (u := (va_up I 1 ((I 1) + (1 : Int32)), va_up R 0 (upd (R 0) (I 1).toNatClampNeg p1), q, n)) hx hb hr hK hP hD hS hq dX1_hearOf_29 hlocks
def qX1_layOut (mc : Nat) (ms : Nat) (post : Int32 → (Nat → Int32) → (Nat → Nat → Int32) → Nat → Nat → Prop) (p1 : Int32) (p2 : Int32) (I : Nat → Int32) (R : Nat → Nat → Int32) (q : Nat) (n : Nat) : Prop := ∃ (mc_1 kc_1 : Nat), (0 + mc_1 ≤ mc ∧ 0 + kc_1 ≤ ms) ∧ (∃ Pc_1 : Int32 → (Nat → Int32) → (Nat → Nat → Int32) → Nat → Nat → Prop, qX1_pagesFor mc_1 kc_1 Pc_1 p1 I R q n ∧ (∀ (rc_1 : Int32) (Ic_1 : Nat → Int32) (Rc_1 : Nat → Nat → Int32) (qc_1 : Nat) (nc_1 : Nat), Pc_1 rc_1 Ic_1 Rc_1 qc_1 nc_1 → (((p2 < rc_1) → (post (-1 : Int32) Ic_1 Rc_1 qc_1 nc_1)) ∧ ((¬ p2 < rc_1) → ((((14 : Int32) < rc_1) → (post (-1 : Int32) Ic_1 Rc_1 qc_1 nc_1)) ∧ ((¬ (14 : Int32) < rc_1) → (((0 ≤ rc_1) → (∃ Pc_2 : (Nat → Int32) → (Nat → Nat → Int32) → Nat → Nat → Prop, qX1_layOnto Pc_2 (((1 : Int32) <<< (rc_1 &&& 31)) - (1 : Int32)) p1 (va_up Ic_1 3 rc_1) Rc_1 qc_1 nc_1 ∧ (∀ (Ic_2 : Nat → Int32) (Rc_2 : Nat → Nat → Int32) (qc_2 : Nat) (nc_2 : Nat), Pc_2 Ic_2 Rc_2 qc_2 nc_2 → (post rc_1 Ic_2 Rc_2 qc_2 nc_2)))) ∧ ((¬ 0 ≤ rc_1) → (post (-1 : Int32) Ic_1 Rc_1 qc_1 nc_1)))))))))
theorem mX1_layOut_f25 : Cond.fieldLink RX1 25 "YearBook$Pages" "count" "I" ∈ wsX1_layOut := by decide +kernel
theorem nX1_layOut_X1 : ∀ w ∈ u_ws RX1 TX1 10, w ∈ wsX1_layOut := by decide +kernel
set_option maxHeartbeats 4000000 in
set_option maxRecDepth 100000 in
theorem tX1_layOut (l : Launch) (dC : Nat → ClassId) (dI : Nat → Nat → Nat) (cI : ClassId) (h : Nat) (ad : Nat → Nat)  (sz : Nat) (mc : Nat) (ms : Nat) (post : Int32 → (Nat → Int32) → (Nat → Nat → Int32) → Nat → Nat → Prop) (p1 : Int32) (p2 : Int32) (I : Nat → Int32) (R : Nat → Nat → Int32) (q : Nat) (n : Nat) (hq : qX1_layOut mc ms post p1 p2 I R q n) : Met l yX1_layOut wsX1_layOut ({ frames := 27, cells := mc, slots := ms, locals := 700 } : Room) (va_Pc [.ref h, .int p1, .int p2] (wPre (dC, dI) vwCl [(cI, .int)] (wd1 cI h ad I R q n) sz)) (va_Qi (fun r (u : (Nat → Int32) × (Nat → Nat → Int32) × (Nat) × (Nat)) => post r u.1 u.2.1 u.2.2.1 u.2.2.2) (wAt (dC, dI) vwCl [(cI, .int)] (va_A (wd1 cI h ad I R q n) sz) (fun u : (Nat → Int32) × (Nat → Nat → Int32) × (Nat) × (Nat) => wd1 cI h ad u.1 u.2.1 u.2.2.1 u.2.2.2)) (va_A (wd1 cI h ad I R q n) sz)) mc ms (va_A (wd1 cI h ad I R q n) sz) := by
  unfold qX1_layOut at hq
  refine Met.ofW (cc := cX1_layOut) (maxL := 4) (ret := (some .int)) (by decide) rfl ?_
  intro p e s m args below meth c s₁ B hml hv
  obtain ⟨rfl, hsz, hP, hK, hD0⟩ := hv
  have hx := B.exec
  have hb := B.bytes
  have hr := B.returns
  have hts := atoms_spec (ws := wsX1_layOut) B.pre
  have hown : s.vm.findClass RX1 = some m.cls := findClass_of_methodNamed B.named
  have hlocks := B.notSynchronized
  subst hsz
  have hD := hD0.self (sz := s.heap.size)
  generalize hAe : va_A (wd1 cI h ad I R q n) s.heap.size = A at hD ⊢
  have hA : ∀ q : Nat, s.heap.size ≤ q → A q := fun q h => by rw [← hAe]; exact Or.inr h
  have hS : va_S A s.heap s.heap [] := va_S.rf
  have hl := lv_entry ([.ref h, .int p1, .int p2]) (n := 4) (Nat.le_of_ble_eq_true rfl)
  rw [lg_entry_eq]
  generalize (lg_sl ([.ref h, .int p1, .int p2]) ++ List.replicate (4 - (lg_sl ([.ref h, .int p1, .int p2])).length) Slot.unset).toArray = ls at hl ⊢
  have hl : lv_has ls 4 [(0, .ref h), (1, .int p1), (2, .int p2)] := hl
  have hcm : 0 ≤ mc := Nat.zero_le _
  have hsm : 0 ≤ ms := Nat.zero_le _
  refine lv_aload_n hx hb dX1_layOut_0 rfl (lv_at hl 0 rfl) ?_
  refine lv_iload_n hx hb dX1_layOut_1 rfl (lv_at hl 1 rfl) ?_
  obtain ⟨mc_1, kc_1, ⟨hcm, hsm⟩, Pc_1, hc, hq⟩ := hq
  refine w_calli (wf := fun u : (Nat → Int32) × (Nat → Nat → Int32) × (Nat) × (Nat) => wd1 cI h ad u.1 u.2.1 u.2.2.1 u.2.2.2) (va_runV (As := [.int p1]) (rest := []) ⟨hx, hb, hml, hown, hts⟩ (tX1_pagesFor l dC dI cI h ad _ mc_1 kc_1 Pc_1 p1 I R q n hc) (cwV 1 hts gX1_layOut_X1_pagesFor rfl rfl rfl (by decide +kernel) ⟨Nat.le_of_ble_eq_true rfl, Nat.le_of_ble_eq_true rfl⟩) (wPreV hK hP hD (ci := 1) (q0 := 0) rfl rfl) rfl rfl hl.1 rfl (lv_room (Nat.le_of_ble_eq_true rfl)) dX1_layOut_2 ⟨hcm, hsm⟩) hD hS hA (fun rc_1 u H locs hp hP hD hS => ?_)
  obtain ⟨Ic_1, Rc_1, qc_1, nc_1⟩ := u
  have hq := hq rc_1 Ic_1 Rc_1 qc_1 nc_1 hp
  have hP : va_P (dC, dI) vwCl (wd1 cI h ad Ic_1 Rc_1 qc_1 nc_1) H := hP
  have hD : va_D A (wd1 cI h ad Ic_1 Rc_1 qc_1 nc_1) := hD
  refine lv_istore_n (lv' := [(3, .int rc_1), (0, .ref h), (1, .int p1), (2, .int p2)]) hx hb dX1_layOut_5 rfl hl (by decide) rfl (fun ls hl => ?_)
  refine lv_iload_n hx hb dX1_layOut_6 rfl (lv_at hl 0 rfl) ?_
  refine lv_iload_n hx hb dX1_layOut_7 rfl (lv_at hl 3 rfl) ?_
  refine lv_icmp_gt (tgt := 21) hx hb dX1_layOut_8 (by decide) (fun hc => ?_) (fun hc => ?_)
  · have hq := hq.1 hc
    refine lv_iconst (v := (-1 : Int32)) hx hb dX1_layOut_21 (by decide) ?_
    refine W.widen (k := mc) (n := ms) hcm hsm ?_
    exact w_iret (post := fun r (u : (Nat → Int32) × (Nat → Nat → Int32) × (Nat) × (Nat)) => post r u.1 u.2.1 u.2.2.1 u.2.2.2) (wf := fun u : (Nat → Int32) × (Nat → Nat → Int32) × (Nat) × (Nat) => wd1 cI h ad u.1 u.2.1 u.2.2.1 u.2.2.2) (u := (Ic_1, Rc_1, qc_1, nc_1)) hx hb hr hK hP hD hS hq dX1_layOut_22 hlocks
  · have hq := hq.2 hc
    refine lv_iload_n hx hb dX1_layOut_11 rfl (lv_at hl 0 rfl) ?_
    refine lv_bipush (v := (14 : Int32)) hx hb dX1_layOut_12 (by decide) ?_
    refine lv_icmp_gt (tgt := 21) hx hb dX1_layOut_14 (by decide) (fun hc => ?_) (fun hc => ?_)
    · have hq := hq.1 hc
      refine lv_iconst (v := (-1 : Int32)) hx hb dX1_layOut_21 (by decide) ?_
      refine W.widen (k := mc) (n := ms) hcm hsm ?_
      exact w_iret (post := fun r (u : (Nat → Int32) × (Nat → Nat → Int32) × (Nat) × (Nat)) => post r u.1 u.2.1 u.2.2.1 u.2.2.2) (wf := fun u : (Nat → Int32) × (Nat → Nat → Int32) × (Nat) × (Nat) => wd1 cI h ad u.1 u.2.1 u.2.2.1 u.2.2.2) (u := (Ic_1, Rc_1, qc_1, nc_1)) hx hb hr hK hP hD hS hq dX1_layOut_22 hlocks
    · have hq := hq.2 hc
      refine lv_iload_n hx hb dX1_layOut_17 rfl (lv_at hl 0 rfl) ?_
      refine lv_if_ge (tgt := 23) hx hb dX1_layOut_18 (by decide) (fun hc => ?_) (fun hc => ?_)
      · have hq := hq.1 hc
        refine lv_aload_n hx hb dX1_layOut_23 rfl (lv_at hl 1 rfl) ?_
        refine lv_iload_n hx hb dX1_layOut_24 rfl (lv_at hl 0 rfl) ?_
        refine va_put (D := (dC, dI)) (ci := 1) (v := .int rc_1) (ty := .int) (C := RX1) (T := TX1) (N := 10) hx hb hts nX1_layOut_X1 tyX1 tyX1_ok nmX1 hown hK hP hD hS 0 rfl rfl 3 (by decide) (hts _ mX1_layOut_f25) (fun _ h9 => h9) rfl (by decide +kernel) rfl rfl (Nat.le_of_ble_eq_true rfl) dX1_layOut_25 (fun H locs hP hD hS => ?_)
        rw [wd1_I3] at hP hD
        refine lv_aload_n hx hb dX1_layOut_28 rfl (lv_at hl 1 rfl) ?_
        refine lv_iconst (v := (1 : Int32)) hx hb dX1_layOut_29 (by decide) ?_
        refine lv_iload_n hx hb dX1_layOut_30 rfl (lv_at hl 0 rfl) ?_
        refine lv_ishl hx hb dX1_layOut_31 ?_
        refine lv_iconst (v := (1 : Int32)) hx hb dX1_layOut_32 (by decide) ?_
        refine lv_isub hx hb dX1_layOut_33 ?_
        refine lv_iload_n hx hb dX1_layOut_34 rfl (lv_at hl 2 rfl) ?_
        obtain ⟨Pc_2, hc, hq⟩ := hq
        refine w_callv (wf := fun u : (Nat → Int32) × (Nat → Nat → Int32) × (Nat) × (Nat) => wd1 cI h ad u.1 u.2.1 u.2.2.1 u.2.2.2) (va_runV (As := [.int (((1 : Int32) <<< (rc_1 &&& 31)) - (1 : Int32)), .int p1]) (rest := []) ⟨hx, hb, hml, hown, hts⟩ (tX1_layOnto l dC dI cI h ad _ Pc_2 (((1 : Int32) <<< (rc_1 &&& 31)) - (1 : Int32)) p1 (va_up Ic_1 3 rc_1) Rc_1 qc_1 nc_1 hc) (cwV 2 hts gX1_layOut_X1_layOnto rfl rfl rfl (by decide +kernel) ⟨Nat.le_of_ble_eq_true rfl, Nat.le_of_ble_eq_true rfl⟩) (wPreV hK hP hD (ci := 1) (q0 := 0) rfl rfl) rfl rfl hl.1 rfl (lv_room (Nat.le_of_ble_eq_true rfl)) dX1_layOut_35 ⟨hcm, hsm⟩) hD hS hA (fun u H locs hp hP hD hS => ?_)
        obtain ⟨Ic_2, Rc_2, qc_2, nc_2⟩ := u
        have hq := hq Ic_2 Rc_2 qc_2 nc_2 hp
        have hP : va_P (dC, dI) vwCl (wd1 cI h ad Ic_2 Rc_2 qc_2 nc_2) H := hP
        have hD : va_D A (wd1 cI h ad Ic_2 Rc_2 qc_2 nc_2) := hD
        refine lv_iload_n hx hb dX1_layOut_38 rfl (lv_at hl 0 rfl) ?_
        refine W.widen (k := mc) (n := ms) hcm hsm ?_
        exact w_iret (post := fun r (u : (Nat → Int32) × (Nat → Nat → Int32) × (Nat) × (Nat)) => post r u.1 u.2.1 u.2.2.1 u.2.2.2) (wf := fun u : (Nat → Int32) × (Nat → Nat → Int32) × (Nat) × (Nat) => wd1 cI h ad u.1 u.2.1 u.2.2.1 u.2.2.2) (u := (Ic_2, Rc_2, qc_2, nc_2)) hx hb hr hK hP hD hS hq dX1_layOut_39 hlocks
      · have hq := hq.2 hc
        refine lv_iconst (v := (-1 : Int32)) hx hb dX1_layOut_21 (by decide) ?_
        refine W.widen (k := mc) (n := ms) hcm hsm ?_
        exact w_iret (post := fun r (u : (Nat → Int32) × (Nat → Nat → Int32) × (Nat) × (Nat)) => post r u.1 u.2.1 u.2.2.1 u.2.2.2) (wf := fun u : (Nat → Int32) × (Nat → Nat → Int32) × (Nat) × (Nat) => wd1 cI h ad u.1 u.2.1 u.2.2.1 u.2.2.2) (u := (Ic_1, Rc_1, qc_1, nc_1)) hx hb hr hK hP hD hS hq dX1_layOut_22 hlocks
def zX1_pageOf (post : Int32 → Prop) (p1 : Int32) (I : Nat → Int32) (R : Nat → Nat → Int32) (q : Nat) (n : Nat) (X2 : Int32 → Prop) : Prop :=
  (∀ (x2 : Int32), ((((I 3) ≤ x2) → (post (-1 : Int32))) ∧ ((¬ (I 3) ≤ x2) → (vp_in x2 14 ∧ ((((((R 2 x2.toNatClampNeg) >>> (p1 &&& 31)) &&& (1 : Int32)) = 0) → (X2 (x2 + (1 : Int32)))) ∧ ((¬ (((R 2 x2.toNatClampNeg) >>> (p1 &&& 31)) &&& (1 : Int32)) = 0) → (post x2)))))) → X2 x2)
def qX1_pageOf_2 (post : Int32 → Prop) (p1 : Int32) (I : Nat → Int32) (R : Nat → Nat → Int32) (q : Nat) (n : Nat) (x2 : Int32) : Prop := ∀ (X2 : Int32 → Prop), zX1_pageOf post p1 I R q n X2 → X2 x2
theorem kX1_pageOf_2 {post : Int32 → Prop} {p1 : Int32} {I : Nat → Int32} {R : Nat → Nat → Int32} {q : Nat} {n : Nat} {x2 : Int32} (h : (((I 3) ≤ x2) → (post (-1 : Int32))) ∧ ((¬ (I 3) ≤ x2) → (vp_in x2 14 ∧ ((((((R 2 x2.toNatClampNeg) >>> (p1 &&& 31)) &&& (1 : Int32)) = 0) → (qX1_pageOf_2 post p1 I R q n (x2 + (1 : Int32)))) ∧ ((¬ (((R 2 x2.toNatClampNeg) >>> (p1 &&& 31)) &&& (1 : Int32)) = 0) → (post x2)))))) : qX1_pageOf_2 post p1 I R q n x2 := by
  intro Z2 hcl
  refine hcl x2 ?_
  refine ⟨fun c => ?_, fun c => ?_⟩
  · have h := h.1 c
    exact h
  · have h := h.2 c
    refine ⟨h.1, ?_⟩
    have h := h.2
    refine ⟨fun c => ?_, fun c => ?_⟩
    · have h := h.1 c
      exact h _ hcl
    · have h := h.2 c
      exact h
def qX1_pageOf (post : Int32 → Prop) (p1 : Int32) (I : Nat → Int32) (R : Nat → Nat → Int32) (q : Nat) (n : Nat) : Prop := qX1_pageOf_2 post p1 I R q n (0 : Int32)
theorem mX1_pageOf_f25 : Cond.fieldLink RX1 25 "YearBook$Pages" "count" "I" ∈ wsX1_pageOf := by decide +kernel
theorem nX1_pageOf_X1 : ∀ w ∈ u_ws RX1 TX1 10, w ∈ wsX1_pageOf := by decide +kernel
theorem mX1_pageOf_f15 : Cond.fieldLink RX1 15 "YearBook$Pages" "sets" "[I" ∈ wsX1_pageOf := by decide +kernel
set_option maxHeartbeats 4000000 in
set_option maxRecDepth 100000 in
theorem tX1_pageOf (l : Launch) (dC : Nat → ClassId) (dI : Nat → Nat → Nat) (cI : ClassId) (h : Nat) (ad : Nat → Nat)  (sz : Nat) (post : Int32 → Prop) (p1 : Int32) (I : Nat → Int32) (R : Nat → Nat → Int32) (q : Nat) (n : Nat) (hq : qX1_pageOf post p1 I R q n) : Met l yX1_pageOf wsX1_pageOf ({ frames := 0, cells := 0, slots := 0, locals := 0 } : Room) (va_Pc [.ref h, .int p1] (wPre (dC, dI) vwCl [(cI, .int)] (wd1 cI h ad I R q n) sz)) (va_Qi (fun r (_ : Unit) => post r ) (wAt (dC, dI) vwCl [(cI, .int)] (va_A (wd1 cI h ad I R q n) sz) (fun _ : Unit => wd1 cI h ad I R q n)) (va_A (wd1 cI h ad I R q n) sz)) 0 0 (va_A (wd1 cI h ad I R q n) sz) := by
  unfold qX1_pageOf at hq
  refine Met.ofW (cc := cX1_pageOf) (maxL := 3) (ret := (some .int)) (by decide) rfl ?_
  intro p e s m args below meth c s₁ B hml hv
  obtain ⟨rfl, hsz, hP, hK, hD0⟩ := hv
  have hx := B.exec
  have hb := B.bytes
  have hr := B.returns
  have hts := atoms_spec (ws := wsX1_pageOf) B.pre
  have hown : s.vm.findClass RX1 = some m.cls := findClass_of_methodNamed B.named
  have hlocks := B.notSynchronized
  subst hsz
  have hD := hD0.self (sz := s.heap.size)
  generalize hAe : va_A (wd1 cI h ad I R q n) s.heap.size = A at hD ⊢
  have hA : ∀ q : Nat, s.heap.size ≤ q → A q := fun q h => by rw [← hAe]; exact Or.inr h
  have hS : va_S A s.heap s.heap [] := va_S.rf
  have hZ : zX1_pageOf post p1 I R q n
      (fun (x2 : Int32) => ∀ (H : Heap) (locs : List Loc) (ls : Array Slot), va_P (dC, dI) vwCl (wd1 cI h ad I R q n) H → va_D A (wd1 cI h ad I R q n) → va_S A s.heap H locs → lv_has ls 3 [(0, .ref h), (1, .int p1), (2, .int x2)] → W p l e (headSpec wsX1_pageOf ({ frames := 0, cells := 0, slots := 0, locals := 0 } : Room)).room s m ([.ref h, .int p1] : List Value).toArray below meth c H locs 0 0 (MQ below (va_Qi (fun r (_ : Unit) => post r ) (wAt (dC, dI) vwCl [(cI, .int)] A (fun _ : Unit => wd1 cI h ad I R q n)) A) ([.ref h, .int p1] : List Value).toArray s 0 0 A) (F0 m 2 ls [])) := by
    unfold zX1_pageOf
    intro x2 hq H locs ls hP hD hS hl
    refine lv_iload_n hx hb dX1_pageOf_2 rfl (lv_at hl 2 rfl) ?_
    refine lv_aload_n hx hb dX1_pageOf_3 rfl (lv_at hl 0 rfl) ?_
    refine va_get (D := (dC, dI)) (ci := 1) (v := .int (I 3)) (C := RX1) (T := TX1) (N := 10) hx hb hts nX1_pageOf_X1 hown hK hP 0 rfl rfl 3 (by decide) (hts _ mX1_pageOf_f25) (fun _ h9 => h9) rfl dX1_pageOf_4 ?_
    refine lv_icmp_ge (tgt := 31) hx hb dX1_pageOf_7 (by decide) (fun hc => ?_) (fun hc => ?_)
    · have hq := hq.1 hc
      refine lv_iconst (v := (-1 : Int32)) hx hb dX1_pageOf_31 (by decide) ?_
      exact w_iret (post := fun r (_ : Unit) => post r ) (wf := fun _ : Unit => wd1 cI h ad I R q n) (u := ()) hx hb hr hK hP hD hS hq dX1_pageOf_32 hlocks
    · have hq := hq.2 hc
      refine lv_aload_n hx hb dX1_pageOf_10 rfl (lv_at hl 0 rfl) ?_
      refine va_get (D := (dC, dI)) (ci := 1) (v := .ref (ad 2)) (C := RX1) (T := TX1) (N := 10) hx hb hts nX1_pageOf_X1 hown hK hP 0 rfl rfl 2 (by decide) (hts _ mX1_pageOf_f15) (fun _ h9 => h9) rfl dX1_pageOf_11 ?_
      refine lv_iload_n hx hb dX1_pageOf_14 rfl (lv_at hl 2 rfl) ?_
      obtain ⟨hi_1, hq⟩ := hq
      refine va_iald (f := R 2) hx hb hK hP 2 0 rfl rfl hi_1 dX1_pageOf_15 ?_
      refine lv_iload_n hx hb dX1_pageOf_16 rfl (lv_at hl 1 rfl) ?_
      refine lv_ishr hx hb dX1_pageOf_17 ?_
      refine lv_iconst (v := (1 : Int32)) hx hb dX1_pageOf_18 (by decide) ?_
      refine lv_iand hx hb dX1_pageOf_19 ?_
      refine lv_if_eq (tgt := 25) hx hb dX1_pageOf_20 (by decide) (fun hc => ?_) (fun hc => ?_)
      · have hq := hq.1 hc
        refine lv_iinc (v := x2 + (1 : Int32)) (lv' := [(2, .int (x2 + (1 : Int32))), (0, .ref h), (1, .int p1)]) hx hb dX1_pageOf_25 hl (k := 2) rfl rfl (by decide) rfl (fun ls hl => ?_)
        refine lv_goto (tgt := 2) hx hb dX1_pageOf_28 (by decide) ?_
        exact hq _ _ ls hP hD hS (lv_sub hl [1, 2, 0] rfl)
      · have hq := hq.2 hc
        refine lv_iload_n hx hb dX1_pageOf_23 rfl (lv_at hl 2 rfl) ?_
        exact w_iret (post := fun r (_ : Unit) => post r ) (wf := fun _ : Unit => wd1 cI h ad I R q n) (u := ()) hx hb hr hK hP hD hS hq dX1_pageOf_24 hlocks
  have hl := lv_entry ([.ref h, .int p1]) (n := 3) (Nat.le_of_ble_eq_true rfl)
  rw [lg_entry_eq]
  generalize (lg_sl ([.ref h, .int p1]) ++ List.replicate (3 - (lg_sl ([.ref h, .int p1])).length) Slot.unset).toArray = ls at hl ⊢
  have hl : lv_has ls 3 [(0, .ref h), (1, .int p1)] := hl
  refine lv_iconst (v := (0 : Int32)) hx hb dX1_pageOf_0 (by decide) ?_
  refine lv_istore_n (lv' := [(2, .int (0 : Int32)), (0, .ref h), (1, .int p1)]) hx hb dX1_pageOf_1 rfl hl (by decide) rfl (fun ls hl => ?_)
  exact hq _ hZ _ _ ls hP hD hS (lv_sub hl [1, 2, 0] rfl)
def qX1_takeOut (post : Int32 → (Nat → Int32) → (Nat → Nat → Int32) → Nat → Nat → Prop) (p1 : Int32) (I : Nat → Int32) (R : Nat → Nat → Int32) (q : Nat) (n : Nat) : Prop := ∃ Pc_1 : Int32 → Prop, qX1_pageOf Pc_1 p1 I R q n ∧ (∀ (rc_1 : Int32), Pc_1 rc_1 → (((rc_1 = (-1 : Int32)) → (post (0 : Int32) I R q n)) ∧ ((¬ rc_1 = (-1 : Int32)) → (((rc_1 < (I 3)) → (vp_in rc_1 14 ∧ (post (1 : Int32) I (va_up R 2 (upd (R 2) rc_1.toNatClampNeg ((R 2 rc_1.toNatClampNeg) &&& (((1 : Int32) <<< (p1 &&& 31)) ^^^ (-1 : Int32))))) q n))) ∧ ((¬ rc_1 < (I 3)) → (post (0 : Int32) I R q n))))))
theorem mX1_takeOut_f25 : Cond.fieldLink RX1 25 "YearBook$Pages" "count" "I" ∈ wsX1_takeOut := by decide +kernel
theorem nX1_takeOut_X1 : ∀ w ∈ u_ws RX1 TX1 10, w ∈ wsX1_takeOut := by decide +kernel
theorem mX1_takeOut_f15 : Cond.fieldLink RX1 15 "YearBook$Pages" "sets" "[I" ∈ wsX1_takeOut := by decide +kernel
set_option maxHeartbeats 4000000 in
set_option maxRecDepth 100000 in
theorem tX1_takeOut (l : Launch) (dC : Nat → ClassId) (dI : Nat → Nat → Nat) (cI : ClassId) (h : Nat) (ad : Nat → Nat)  (sz : Nat) (post : Int32 → (Nat → Int32) → (Nat → Nat → Int32) → Nat → Nat → Prop) (p1 : Int32) (I : Nat → Int32) (R : Nat → Nat → Int32) (q : Nat) (n : Nat) (hq : qX1_takeOut post p1 I R q n) : Met l yX1_takeOut wsX1_takeOut ({ frames := 1, cells := 0, slots := 0, locals := 22 } : Room) (va_Pc [.ref h, .int p1] (wPre (dC, dI) vwCl [(cI, .int)] (wd1 cI h ad I R q n) sz)) (va_Qi (fun r (u : (Nat → Int32) × (Nat → Nat → Int32) × (Nat) × (Nat)) => post r u.1 u.2.1 u.2.2.1 u.2.2.2) (wAt (dC, dI) vwCl [(cI, .int)] (va_A (wd1 cI h ad I R q n) sz) (fun u : (Nat → Int32) × (Nat → Nat → Int32) × (Nat) × (Nat) => wd1 cI h ad u.1 u.2.1 u.2.2.1 u.2.2.2)) (va_A (wd1 cI h ad I R q n) sz)) 0 0 (va_A (wd1 cI h ad I R q n) sz) := by
  unfold qX1_takeOut at hq
  refine Met.ofW (cc := cX1_takeOut) (maxL := 3) (ret := (some .boolean)) (by decide) rfl ?_
  intro p e s m args below meth c s₁ B hml hv
  obtain ⟨rfl, hsz, hP, hK, hD0⟩ := hv
  have hx := B.exec
  have hb := B.bytes
  have hr := B.returns
  have hts := atoms_spec (ws := wsX1_takeOut) B.pre
  have hown : s.vm.findClass RX1 = some m.cls := findClass_of_methodNamed B.named
  have hlocks := B.notSynchronized
  subst hsz
  have hD := hD0.self (sz := s.heap.size)
  generalize hAe : va_A (wd1 cI h ad I R q n) s.heap.size = A at hD ⊢
  have hA : ∀ q : Nat, s.heap.size ≤ q → A q := fun q h => by rw [← hAe]; exact Or.inr h
  have hS : va_S A s.heap s.heap [] := va_S.rf
  have hl := lv_entry ([.ref h, .int p1]) (n := 3) (Nat.le_of_ble_eq_true rfl)
  rw [lg_entry_eq]
  generalize (lg_sl ([.ref h, .int p1]) ++ List.replicate (3 - (lg_sl ([.ref h, .int p1])).length) Slot.unset).toArray = ls at hl ⊢
  have hl : lv_has ls 3 [(0, .ref h), (1, .int p1)] := hl
  refine lv_aload_n hx hb dX1_takeOut_0 rfl (lv_at hl 0 rfl) ?_
  refine lv_iload_n hx hb dX1_takeOut_1 rfl (lv_at hl 1 rfl) ?_
  obtain ⟨Pc_1, hc, hq⟩ := hq
  refine w_calli (wf := fun _ : Unit => wd1 cI h ad I R q n) (va_runV (As := [.int p1]) (rest := []) ⟨hx, hb, hml, hown, hts⟩ (tX1_pageOf l dC dI cI h ad _ Pc_1 p1 I R q n hc) (cwV 1 hts gX1_takeOut_X1_pageOf rfl rfl rfl (by decide +kernel) ⟨Nat.le_of_ble_eq_true rfl, Nat.le_of_ble_eq_true rfl⟩) (wPreV hK hP hD (ci := 1) (q0 := 0) rfl rfl) rfl rfl hl.1 rfl (lv_room (Nat.le_of_ble_eq_true rfl)) dX1_takeOut_2 ⟨Nat.le_of_ble_eq_true rfl, Nat.le_of_ble_eq_true rfl⟩) hD hS hA (fun rc_1 u H locs hp hP hD hS => ?_)
  have hq := hq rc_1 hp
  have hP : va_P (dC, dI) vwCl (wd1 cI h ad I R q n) H := hP
  have hD : va_D A (wd1 cI h ad I R q n) := hD
  refine lv_istore_n (lv' := [(2, .int rc_1), (0, .ref h), (1, .int p1)]) hx hb dX1_takeOut_5 rfl hl (by decide) rfl (fun ls hl => ?_)
  refine lv_iload_n hx hb dX1_takeOut_6 rfl (lv_at hl 0 rfl) ?_
  refine lv_iconst (v := (-1 : Int32)) hx hb dX1_takeOut_7 (by decide) ?_
  refine lv_icmp_eq (tgt := 19) hx hb dX1_takeOut_8 (by decide) (fun hc => ?_) (fun hc => ?_)
  · have hq := hq.1 hc
    refine lv_iconst (v := (0 : Int32)) hx hb dX1_takeOut_19 (by decide) ?_
    exact w_zret (post := fun r (u : (Nat → Int32) × (Nat → Nat → Int32) × (Nat) × (Nat)) => post r u.1 u.2.1 u.2.2.1 u.2.2.2) (wf := fun u : (Nat → Int32) × (Nat → Nat → Int32) × (Nat) × (Nat) => wd1 cI h ad u.1 u.2.1 u.2.2.1 u.2.2.2) (u := (I, R, q, n)) hx hb hr rfl hK hP hD hS hq dX1_takeOut_20 hlocks
  · have hq := hq.2 hc
    refine lv_iload_n hx hb dX1_takeOut_11 rfl (lv_at hl 0 rfl) ?_
    refine lv_aload_n hx hb dX1_takeOut_12 rfl (lv_at hl 1 rfl) ?_
    refine va_get (D := (dC, dI)) (ci := 1) (v := .int (I 3)) (C := RX1) (T := TX1) (N := 10) hx hb hts nX1_takeOut_X1 hown hK hP 0 rfl rfl 3 (by decide) (hts _ mX1_takeOut_f25) (fun _ h9 => h9) rfl dX1_takeOut_13 ?_
    refine lv_icmp_lt (tgt := 21) hx hb dX1_takeOut_16 (by decide) (fun hc => ?_) (fun hc => ?_)
    · have hq := hq.1 hc
      refine lv_aload_n hx hb dX1_takeOut_21 rfl (lv_at hl 1 rfl) ?_
      refine va_get (D := (dC, dI)) (ci := 1) (v := .ref (ad 2)) (C := RX1) (T := TX1) (N := 10) hx hb hts nX1_takeOut_X1 hown hK hP 0 rfl rfl 2 (by decide) (hts _ mX1_takeOut_f15) (fun _ h9 => h9) rfl dX1_takeOut_22 ?_
      refine lv_iload_n hx hb dX1_takeOut_25 rfl (lv_at hl 0 rfl) ?_
      refine lv_dup2_11 hx hb dX1_takeOut_26 rfl rfl ?_
      obtain ⟨hi_2, hq⟩ := hq
      refine va_iald (f := R 2) hx hb hK hP 2 0 rfl rfl hi_2 dX1_takeOut_27 ?_
      refine lv_iconst (v := (1 : Int32)) hx hb dX1_takeOut_28 (by decide) ?_
      refine lv_iload_n hx hb dX1_takeOut_29 rfl (lv_at hl 2 rfl) ?_
      refine lv_ishl hx hb dX1_takeOut_30 ?_
      refine lv_iconst (v := (-1 : Int32)) hx hb dX1_takeOut_31 (by decide) ?_
      refine lv_ixor hx hb dX1_takeOut_32 ?_
      refine lv_iand hx hb dX1_takeOut_33 ?_
      refine va_iast (f := R 2) hx hb hK hP hD hS 2 0 rfl rfl hi_2 dX1_takeOut_34 (fun H locs hP hD hS => ?_)
      rw [wd1_R2] at hP hD
      refine lv_iconst (v := (1 : Int32)) hx hb dX1_takeOut_35 (by decide) ?_
      exact w_zret (post := fun r (u : (Nat → Int32) × (Nat → Nat → Int32) × (Nat) × (Nat)) => post r u.1 u.2.1 u.2.2.1 u.2.2.2) (wf := fun u : (Nat → Int32) × (Nat → Nat → Int32) × (Nat) × (Nat) => wd1 cI h ad u.1 u.2.1 u.2.2.1 u.2.2.2) (u := (I, va_up R 2 (upd (R 2) rc_1.toNatClampNeg ((R 2 rc_1.toNatClampNeg) &&& (((1 : Int32) <<< (p1 &&& 31)) ^^^ (-1 : Int32)))), q, n)) hx hb hr rfl hK hP hD hS hq dX1_takeOut_36 hlocks
    · have hq := hq.2 hc
      refine lv_iconst (v := (0 : Int32)) hx hb dX1_takeOut_19 (by decide) ?_
      exact w_zret (post := fun r (u : (Nat → Int32) × (Nat → Nat → Int32) × (Nat) × (Nat)) => post r u.1 u.2.1 u.2.2.1 u.2.2.2) (wf := fun u : (Nat → Int32) × (Nat → Nat → Int32) × (Nat) × (Nat) => wd1 cI h ad u.1 u.2.1 u.2.2.1 u.2.2.2) (u := (I, R, q, n)) hx hb hr rfl hK hP hD hS hq dX1_takeOut_20 hlocks
