def zX4_lay (post : Int32 → (Nat → Int32) → (Nat → Nat → Int32) → Prop) (X45 : Int32 → (Nat → Int32) → (Nat → Nat → Int32) → Prop) : Prop :=
  (∀ (x1 : Int32) (I : Nat → Int32) (R : Nat → Nat → Int32), ((((I 18) ≤ x1) → (post (I 18) I R)) ∧ ((¬ (I 18) ≤ x1) → (vp_in x1 14 ∧ (X45 (x1 + (1 : Int32)) I (va_up R 17 (upd (R 17) x1.toNatClampNeg (R 26 x1.toNatClampNeg))))))) → X45 x1 I R)
def qX4_lay_45 (post : Int32 → (Nat → Int32) → (Nat → Nat → Int32) → Prop) (x1 : Int32) (I : Nat → Int32) (R : Nat → Nat → Int32) : Prop := ∀ (X45 : Int32 → (Nat → Int32) → (Nat → Nat → Int32) → Prop), zX4_lay post X45 → X45 x1 I R
theorem kX4_lay_45 {post : Int32 → (Nat → Int32) → (Nat → Nat → Int32) → Prop} {x1 : Int32} {I : Nat → Int32} {R : Nat → Nat → Int32} (h : (((I 18) ≤ x1) → (post (I 18) I R)) ∧ ((¬ (I 18) ≤ x1) → (vp_in x1 14 ∧ (qX4_lay_45 post (x1 + (1 : Int32)) I (va_up R 17 (upd (R 17) x1.toNatClampNeg (R 26 x1.toNatClampNeg))))))) : qX4_lay_45 post x1 I R := by
  intro Z45 hcl
  refine hcl x1 I R ?_
  refine ⟨fun c => ?_, fun c => ?_⟩
  · have h := h.1 c
    exact h
  · have h := h.2 c
    refine ⟨h.1, ?_⟩
    have h := h.2
    exact h _ hcl
def qX4_lay (post : Int32 → (Nat → Int32) → (Nat → Nat → Int32) → Prop) (I : Nat → Int32) (R : Nat → Nat → Int32) : Prop := ∃ Pc_1 : (Nat → Int32) → (Nat → Nat → Int32) → Prop, qX4_pack Pc_1 (I 16) (va_up I 19 (0 : Int32)) R ∧ (∀ (Ic_1 : Nat → Int32) (Rc_1 : Nat → Nat → Int32), Pc_1 Ic_1 Rc_1 → (vp_in (Ic_1 16) 16384 ∧ ((((Rc_1 25 (Ic_1 16).toNatClampNeg) ≤ (Ic_1 15)) → (∃ Pc_3 : Int32 → (Nat → Int32) → (Nat → Nat → Int32) → Prop, qX4_layAll Pc_3 (Ic_1 16) Ic_1 Rc_1 ∧ (∀ (rc_3 : Int32) (Ic_3 : Nat → Int32) (Rc_3 : Nat → Nat → Int32), Pc_3 rc_3 Ic_3 Rc_3 → (qX4_lay_45 post (0 : Int32) (va_up Ic_3 18 rc_3) Rc_3)))) ∧ ((¬ (Rc_1 25 (Ic_1 16).toNatClampNeg) ≤ (Ic_1 15)) → (post (-1 : Int32) Ic_1 Rc_1)))))
theorem mX4_lay_f71 : Cond.fieldLink RX4 71 "YearBookModel" "thrown" "I" ∈ wsX4_lay := by decide +kernel
theorem nX4_lay_X4 : ∀ w ∈ u_ws RX4 TX4 27, w ∈ wsX4_lay := by decide +kernel
theorem mX4_lay_f108 : Cond.fieldLink RX4 108 "YearBookModel" "choice" "I" ∈ wsX4_lay := by decide +kernel
theorem mX4_lay_f65 : Cond.fieldLink RX4 65 "YearBookModel" "least" "[I" ∈ wsX4_lay := by decide +kernel
theorem mX4_lay_f47 : Cond.fieldLink RX4 47 "YearBookModel" "last" "I" ∈ wsX4_lay := by decide +kernel
theorem mX4_lay_f114 : Cond.fieldLink RX4 114 "YearBookModel" "pageMany" "I" ∈ wsX4_lay := by decide +kernel
theorem mX4_lay_f50 : Cond.fieldLink RX4 50 "YearBookModel" "pages" "[I" ∈ wsX4_lay := by decide +kernel
theorem mX4_lay_f68 : Cond.fieldLink RX4 68 "YearBookModel" "laid" "[I" ∈ wsX4_lay := by decide +kernel
set_option maxHeartbeats 4000000 in
set_option maxRecDepth 100000 in
theorem tX4_lay (l : Launch) (dC : Nat → ClassId) (dI : Nat → Nat → Nat) (cI : ClassId) (h : Nat) (ad : Nat → Nat)  (sz : Nat) (post : Int32 → (Nat → Int32) → (Nat → Nat → Int32) → Prop) (I : Nat → Int32) (R : Nat → Nat → Int32) (hq : qX4_lay post I R) : Met l yX4_lay wsX4_lay ({ frames := 3, cells := 0, slots := 0, locals := 84 } : Room) (va_Pc [.ref h] (wPre (dC, dI) vwCl [(cI, .int)] (wd4 cI h ad I R) sz)) (va_Qi (fun r (u : (Nat → Int32) × (Nat → Nat → Int32)) => post r u.1 u.2) (wAt (dC, dI) vwCl [(cI, .int)] (va_A (wd4 cI h ad I R) sz) (fun u : (Nat → Int32) × (Nat → Nat → Int32) => wd4 cI h ad u.1 u.2)) (va_A (wd4 cI h ad I R) sz)) 0 0 (va_A (wd4 cI h ad I R) sz) := by
  unfold qX4_lay at hq
  refine Met.ofW (cc := cX4_lay) (maxL := 2) (ret := (some .int)) (by decide) rfl ?_
  intro p e s m args below meth c s₁ B hml hv
  obtain ⟨rfl, hsz, hP, hK, hD0⟩ := hv
  have hx := B.exec
  have hb := B.bytes
  have hr := B.returns
  have hts := atoms_spec (ws := wsX4_lay) B.pre
  have hown : s.vm.findClass RX4 = some m.cls := findClass_of_methodNamed B.named
  have hlocks := B.notSynchronized
  subst hsz
  have hD := hD0.self (sz := s.heap.size)
  generalize hAe : va_A (wd4 cI h ad I R) s.heap.size = A at hD ⊢
  have hA : ∀ q : Nat, s.heap.size ≤ q → A q := fun q h => by rw [← hAe]; exact Or.inr h
  have hS : va_S A s.heap s.heap [] := va_S.rf
  have hZ : zX4_lay post
      (fun (x1 : Int32) (I : Nat → Int32) (R : Nat → Nat → Int32) => ∀ (H : Heap) (locs : List Loc) (ls : Array Slot), va_P (dC, dI) vwCl (wd4 cI h ad I R) H → va_D A (wd4 cI h ad I R) → va_S A s.heap H locs → lv_has ls 2 [(0, .ref h), (1, .int x1)] → W p l e (headSpec wsX4_lay ({ frames := 3, cells := 0, slots := 0, locals := 84 } : Room)).room s m ([.ref h] : List Value).toArray below meth c H locs 0 0 (MQ below (va_Qi (fun r (u : (Nat → Int32) × (Nat → Nat → Int32)) => post r u.1 u.2) (wAt (dC, dI) vwCl [(cI, .int)] A (fun u : (Nat → Int32) × (Nat → Nat → Int32) => wd4 cI h ad u.1 u.2)) A) ([.ref h] : List Value).toArray s 0 0 A) (F0 m 45 ls [])) := by
    unfold zX4_lay
    intro x1 I R hq H locs ls hP hD hS hl
    refine lv_iload_n hx hb dX4_lay_45 rfl (lv_at hl 1 rfl) ?_
    refine lv_aload_n hx hb dX4_lay_46 rfl (lv_at hl 0 rfl) ?_
    refine va_get (D := (dC, dI)) (ci := 4) (v := .int (I 18)) (C := RX4) (T := TX4) (N := 27) hx hb hts nX4_lay_X4 hown hK hP 0 rfl rfl 18 (by decide) (hts _ mX4_lay_f114) (fun _ h9 => h9) rfl dX4_lay_47 ?_
    refine lv_icmp_ge (tgt := 71) hx hb dX4_lay_50 (by decide) (fun hc => ?_) (fun hc => ?_)
    · have hq := hq.1 hc
      refine lv_aload_n hx hb dX4_lay_71 rfl (lv_at hl 0 rfl) ?_
      refine va_get (D := (dC, dI)) (ci := 4) (v := .int (I 18)) (C := RX4) (T := TX4) (N := 27) hx hb hts nX4_lay_X4 hown hK hP 0 rfl rfl 18 (by decide) (hts _ mX4_lay_f114) (fun _ h9 => h9) rfl dX4_lay_72 ?_
      exact w_iret (post := fun r (u : (Nat → Int32) × (Nat → Nat → Int32)) => post r u.1 u.2) (wf := fun u : (Nat → Int32) × (Nat → Nat → Int32) => wd4 cI h ad u.1 u.2) (u := (I, R)) hx hb hr hK hP hD hS hq dX4_lay_75 hlocks
    · have hq := hq.2 hc
      refine lv_aload_n hx hb dX4_lay_53 rfl (lv_at hl 0 rfl) ?_
      refine va_get (D := (dC, dI)) (ci := 4) (v := .ref (ad 17)) (C := RX4) (T := TX4) (N := 27) hx hb hts nX4_lay_X4 hown hK hP 0 rfl rfl 17 (by decide) (hts _ mX4_lay_f50) (fun _ h9 => h9) rfl dX4_lay_54 ?_
      refine lv_iload_n hx hb dX4_lay_57 rfl (lv_at hl 1 rfl) ?_
      refine lv_aload_n hx hb dX4_lay_58 rfl (lv_at hl 0 rfl) ?_
      refine va_get (D := (dC, dI)) (ci := 4) (v := .ref (ad 26)) (C := RX4) (T := TX4) (N := 27) hx hb hts nX4_lay_X4 hown hK hP 0 rfl rfl 26 (by decide) (hts _ mX4_lay_f68) (fun _ h9 => h9) rfl dX4_lay_59 ?_
      refine lv_iload_n hx hb dX4_lay_62 rfl (lv_at hl 1 rfl) ?_
      obtain ⟨hi_4, hq⟩ := hq
      refine va_iald (f := R 26) hx hb hK hP 17 0 rfl rfl hi_4 dX4_lay_63 ?_
      refine va_iast (f := R 17) hx hb hK hP hD hS 11 0 rfl rfl hi_4 dX4_lay_64 (fun H locs hP hD hS => ?_)
      rw [wd4_R17] at hP hD
      refine lv_iinc (v := x1 + (1 : Int32)) (lv' := [(1, .int (x1 + (1 : Int32))), (0, .ref h)]) hx hb dX4_lay_65 hl (k := 1) rfl rfl (by decide) rfl (fun ls hl => ?_)
      refine lv_goto (tgt := 45) hx hb dX4_lay_68 (by decide) ?_
      exact hq _ _ ls hP hD hS (lv_sub hl [1, 0] rfl)
  have hl := lv_entry ([.ref h]) (n := 2) (Nat.le_of_ble_eq_true rfl)
  rw [lg_entry_eq]
  generalize (lg_sl ([.ref h]) ++ List.replicate (2 - (lg_sl ([.ref h])).length) Slot.unset).toArray = ls at hl ⊢
  have hl : lv_has ls 2 [(0, .ref h)] := hl
  refine lv_aload_n hx hb dX4_lay_0 rfl (lv_at hl 0 rfl) ?_
  refine lv_iconst (v := (0 : Int32)) hx hb dX4_lay_1 (by decide) ?_
  refine va_put (D := (dC, dI)) (ci := 4) (v := .int (0 : Int32)) (ty := .int) (C := RX4) (T := TX4) (N := 27) hx hb hts nX4_lay_X4 tyX4 tyX4_ok nmX4 hown hK hP hD hS 0 rfl rfl 19 (by decide) (hts _ mX4_lay_f71) (fun _ h9 => h9) rfl (by decide +kernel) rfl rfl (Nat.le_of_ble_eq_true rfl) dX4_lay_2 (fun H locs hP hD hS => ?_)
  rw [wd4_I19] at hP hD
  refine lv_aload_n hx hb dX4_lay_5 rfl (lv_at hl 0 rfl) ?_
  refine lv_aload_n hx hb dX4_lay_6 rfl (lv_at hl 0 rfl) ?_
  refine va_get (D := (dC, dI)) (ci := 4) (v := .int (I 16)) (C := RX4) (T := TX4) (N := 27) hx hb hts nX4_lay_X4 hown hK hP 0 rfl rfl 16 (by decide) (hts _ mX4_lay_f108) (fun _ h9 => h9) rfl dX4_lay_7 ?_
  obtain ⟨Pc_1, hc, hq⟩ := hq
  refine w_callv (wf := fun u : (Nat → Int32) × (Nat → Nat → Int32) => wd4 cI h ad u.1 u.2) (va_runV (As := [.int (I 16)]) (rest := []) ⟨hx, hb, hml, hown, hts⟩ (tX4_pack l dC dI cI h ad _ Pc_1 (I 16) (va_up I 19 (0 : Int32)) R hc) (cwV 1 hts gX4_lay_X4_pack rfl rfl rfl (by decide +kernel) ⟨Nat.le_of_ble_eq_true rfl, Nat.le_of_ble_eq_true rfl⟩) (wPreV hK hP hD (ci := 4) (q0 := 0) rfl rfl) rfl rfl hl.1 rfl (lv_room (Nat.le_of_ble_eq_true rfl)) dX4_lay_10 ⟨Nat.le_of_ble_eq_true rfl, Nat.le_of_ble_eq_true rfl⟩) hD hS hA (fun u H locs hp hP hD hS => ?_)
  obtain ⟨Ic_1, Rc_1⟩ := u
  have hq := hq Ic_1 Rc_1 hp
  have hP : va_P (dC, dI) vwCl (wd4 cI h ad Ic_1 Rc_1) H := hP
  have hD : va_D A (wd4 cI h ad Ic_1 Rc_1) := hD
  refine lv_aload_n hx hb dX4_lay_13 rfl (lv_at hl 0 rfl) ?_
  refine va_get (D := (dC, dI)) (ci := 4) (v := .ref (ad 25)) (C := RX4) (T := TX4) (N := 27) hx hb hts nX4_lay_X4 hown hK hP 0 rfl rfl 25 (by decide) (hts _ mX4_lay_f65) (fun _ h9 => h9) rfl dX4_lay_14 ?_
  refine lv_aload_n hx hb dX4_lay_17 rfl (lv_at hl 0 rfl) ?_
  refine va_get (D := (dC, dI)) (ci := 4) (v := .int (Ic_1 16)) (C := RX4) (T := TX4) (N := 27) hx hb hts nX4_lay_X4 hown hK hP 0 rfl rfl 16 (by decide) (hts _ mX4_lay_f108) (fun _ h9 => h9) rfl dX4_lay_18 ?_
  obtain ⟨hi_2, hq⟩ := hq
  refine va_iald (f := Rc_1 25) hx hb hK hP 16 0 rfl rfl hi_2 dX4_lay_21 ?_
  refine lv_aload_n hx hb dX4_lay_22 rfl (lv_at hl 0 rfl) ?_
  refine va_get (D := (dC, dI)) (ci := 4) (v := .int (Ic_1 15)) (C := RX4) (T := TX4) (N := 27) hx hb hts nX4_lay_X4 hown hK hP 0 rfl rfl 15 (by decide) (hts _ mX4_lay_f47) (fun _ h9 => h9) rfl dX4_lay_23 ?_
  refine lv_icmp_le (tgt := 31) hx hb dX4_lay_26 (by decide) (fun hc => ?_) (fun hc => ?_)
  · have hq := hq.1 hc
    refine lv_aload_n hx hb dX4_lay_31 rfl (lv_at hl 0 rfl) ?_
    refine lv_aload_n hx hb dX4_lay_32 rfl (lv_at hl 0 rfl) ?_
    refine lv_aload_n hx hb dX4_lay_33 rfl (lv_at hl 0 rfl) ?_
    refine va_get (D := (dC, dI)) (ci := 4) (v := .int (Ic_1 16)) (C := RX4) (T := TX4) (N := 27) hx hb hts nX4_lay_X4 hown hK hP 0 rfl rfl 16 (by decide) (hts _ mX4_lay_f108) (fun _ h9 => h9) rfl dX4_lay_34 ?_
    obtain ⟨Pc_3, hc, hq⟩ := hq
    refine w_calli (wf := fun u : (Nat → Int32) × (Nat → Nat → Int32) => wd4 cI h ad u.1 u.2) (va_runV (As := [.int (Ic_1 16)]) (rest := [.ref h]) ⟨hx, hb, hml, hown, hts⟩ (tX4_layAll l dC dI cI h ad _ Pc_3 (Ic_1 16) Ic_1 Rc_1 hc) (cwV 1 hts gX4_lay_X4_layAll rfl rfl rfl (by decide +kernel) ⟨Nat.le_of_ble_eq_true rfl, Nat.le_of_ble_eq_true rfl⟩) (wPreV hK hP hD (ci := 4) (q0 := 0) rfl rfl) rfl rfl hl.1 rfl (lv_room (Nat.le_of_ble_eq_true rfl)) dX4_lay_37 ⟨Nat.le_of_ble_eq_true rfl, Nat.le_of_ble_eq_true rfl⟩) hD hS hA (fun rc_3 u H locs hp hP hD hS => ?_)
    obtain ⟨Ic_3, Rc_3⟩ := u
    have hq := hq rc_3 Ic_3 Rc_3 hp
    have hP : va_P (dC, dI) vwCl (wd4 cI h ad Ic_3 Rc_3) H := hP
    have hD : va_D A (wd4 cI h ad Ic_3 Rc_3) := hD
    refine va_put (D := (dC, dI)) (ci := 4) (v := .int rc_3) (ty := .int) (C := RX4) (T := TX4) (N := 27) hx hb hts nX4_lay_X4 tyX4 tyX4_ok nmX4 hown hK hP hD hS 0 rfl rfl 18 (by decide) (hts _ mX4_lay_f114) (fun _ h9 => h9) rfl (by decide +kernel) rfl rfl (Nat.le_of_ble_eq_true rfl) dX4_lay_40 (fun H locs hP hD hS => ?_)
    rw [wd4_I18] at hP hD
    refine lv_iconst (v := (0 : Int32)) hx hb dX4_lay_43 (by decide) ?_
    refine lv_istore_n (lv' := [(1, .int (0 : Int32)), (0, .ref h)]) hx hb dX4_lay_44 rfl hl (by decide) rfl (fun ls hl => ?_)
    exact hq _ hZ _ _ ls hP hD hS (lv_sub hl [1, 0] rfl)
  · have hq := hq.2 hc
    refine lv_iconst (v := (-1 : Int32)) hx hb dX4_lay_29 (by decide) ?_
    exact w_iret (post := fun r (u : (Nat → Int32) × (Nat → Nat → Int32)) => post r u.1 u.2) (wf := fun u : (Nat → Int32) × (Nat → Nat → Int32) => wd4 cI h ad u.1 u.2) (u := (Ic_1, Rc_1)) hx hb hr hK hP hD hS hq dX4_lay_30 hlocks
def zX4_pointsOf (post : Int32 → Prop) (p1 : Int32) (I : Nat → Int32) (R : Nat → Nat → Int32) (X4 : Int32 → Int32 → Prop) : Prop :=
  (∀ (x2 : Int32) (x3 : Int32), ((((I 11) ≤ x3) → (post x2)) ∧ ((¬ (I 11) ≤ x3) → (((¬ ((p1 >>> (x3 &&& 31)) &&& (1 : Int32)) = (1 : Int32)) → (X4 x2 (x3 + (1 : Int32)))) ∧ ((((p1 >>> (x3 &&& 31)) &&& (1 : Int32)) = (1 : Int32)) → (vp_in x3 14 ∧ (∀ x2_2 : Int32, x2_2 = x2 + (R 5 x3.toNatClampNeg) → (X4 x2_2 (x3 + (1 : Int32))))))))) → X4 x2 x3)
def qX4_pointsOf_4 (post : Int32 → Prop) (p1 : Int32) (I : Nat → Int32) (R : Nat → Nat → Int32) (x2 : Int32) (x3 : Int32) : Prop := ∀ (X4 : Int32 → Int32 → Prop), zX4_pointsOf post p1 I R X4 → X4 x2 x3
theorem kX4_pointsOf_4 {post : Int32 → Prop} {p1 : Int32} {I : Nat → Int32} {R : Nat → Nat → Int32} {x2 : Int32} {x3 : Int32} (h : (((I 11) ≤ x3) → (post x2)) ∧ ((¬ (I 11) ≤ x3) → (((¬ ((p1 >>> (x3 &&& 31)) &&& (1 : Int32)) = (1 : Int32)) → (qX4_pointsOf_4 post p1 I R x2 (x3 + (1 : Int32)))) ∧ ((((p1 >>> (x3 &&& 31)) &&& (1 : Int32)) = (1 : Int32)) → (vp_in x3 14 ∧ (∀ x2_2 : Int32, x2_2 = x2 + (R 5 x3.toNatClampNeg) → (qX4_pointsOf_4 post p1 I R x2_2 (x3 + (1 : Int32))))))))) : qX4_pointsOf_4 post p1 I R x2 x3 := by
  intro Z4 hcl
  refine hcl x2 x3 ?_
  refine ⟨fun c => ?_, fun c => ?_⟩
  · have h := h.1 c
    exact h
  · have h := h.2 c
    refine ⟨fun c => ?_, fun c => ?_⟩
    · have h := h.1 c
      exact h _ hcl
    · have h := h.2 c
      refine ⟨h.1, ?_⟩
      have h := h.2
      intro x e
      have h := h x e
      exact h _ hcl
def qX4_pointsOf (post : Int32 → Prop) (p1 : Int32) (I : Nat → Int32) (R : Nat → Nat → Int32) : Prop := qX4_pointsOf_4 post p1 I R (0 : Int32) (0 : Int32)
theorem mX4_pointsOf_f74 : Cond.fieldLink RX4 74 "YearBookModel" "pictures" "I" ∈ wsX4_pointsOf := by decide +kernel
theorem nX4_pointsOf_X4 : ∀ w ∈ u_ws RX4 TX4 27, w ∈ wsX4_pointsOf := by decide +kernel
theorem mX4_pointsOf_f22 : Cond.fieldLink RX4 22 "YearBookModel" "size" "[I" ∈ wsX4_pointsOf := by decide +kernel
set_option maxHeartbeats 4000000 in
set_option maxRecDepth 100000 in
theorem tX4_pointsOf (l : Launch) (dC : Nat → ClassId) (dI : Nat → Nat → Nat) (cI : ClassId) (h : Nat) (ad : Nat → Nat)  (sz : Nat) (post : Int32 → Prop) (p1 : Int32) (I : Nat → Int32) (R : Nat → Nat → Int32) (hq : qX4_pointsOf post p1 I R) : Met l yX4_pointsOf wsX4_pointsOf ({ frames := 0, cells := 0, slots := 0, locals := 0 } : Room) (va_Pc [.ref h, .int p1] (wPre (dC, dI) vwCl [(cI, .int)] (wd4 cI h ad I R) sz)) (va_Qi (fun r (_ : Unit) => post r ) (wAt (dC, dI) vwCl [(cI, .int)] (va_A (wd4 cI h ad I R) sz) (fun _ : Unit => wd4 cI h ad I R)) (va_A (wd4 cI h ad I R) sz)) 0 0 (va_A (wd4 cI h ad I R) sz) := by
  unfold qX4_pointsOf at hq
  refine Met.ofW (cc := cX4_pointsOf) (maxL := 4) (ret := (some .int)) (by decide) rfl ?_
  intro p e s m args below meth c s₁ B hml hv
  obtain ⟨rfl, hsz, hP, hK, hD0⟩ := hv
  have hx := B.exec
  have hb := B.bytes
  have hr := B.returns
  have hts := atoms_spec (ws := wsX4_pointsOf) B.pre
  have hown : s.vm.findClass RX4 = some m.cls := findClass_of_methodNamed B.named
  have hlocks := B.notSynchronized
  subst hsz
  have hD := hD0.self (sz := s.heap.size)
  generalize hAe : va_A (wd4 cI h ad I R) s.heap.size = A at hD ⊢
  have hA : ∀ q : Nat, s.heap.size ≤ q → A q := fun q h => by rw [← hAe]; exact Or.inr h
  have hS : va_S A s.heap s.heap [] := va_S.rf
  have hZ : zX4_pointsOf post p1 I R
      (fun (x2 : Int32) (x3 : Int32) => ∀ (H : Heap) (locs : List Loc) (ls : Array Slot), va_P (dC, dI) vwCl (wd4 cI h ad I R) H → va_D A (wd4 cI h ad I R) → va_S A s.heap H locs → lv_has ls 4 [(0, .ref h), (1, .int p1), (2, .int x2), (3, .int x3)] → W p l e (headSpec wsX4_pointsOf ({ frames := 0, cells := 0, slots := 0, locals := 0 } : Room)).room s m ([.ref h, .int p1] : List Value).toArray below meth c H locs 0 0 (MQ below (va_Qi (fun r (_ : Unit) => post r ) (wAt (dC, dI) vwCl [(cI, .int)] A (fun _ : Unit => wd4 cI h ad I R)) A) ([.ref h, .int p1] : List Value).toArray s 0 0 A) (F0 m 4 ls [])) := by
    unfold zX4_pointsOf
    intro x2 x3 hq H locs ls hP hD hS hl
    refine lv_iload_n hx hb dX4_pointsOf_4 rfl (lv_at hl 3 rfl) ?_
    refine lv_aload_n hx hb dX4_pointsOf_5 rfl (lv_at hl 0 rfl) ?_
    refine va_get (D := (dC, dI)) (ci := 4) (v := .int (I 11)) (C := RX4) (T := TX4) (N := 27) hx hb hts nX4_pointsOf_X4 hown hK hP 0 rfl rfl 11 (by decide) (hts _ mX4_pointsOf_f74) (fun _ h9 => h9) rfl dX4_pointsOf_6 ?_
    refine lv_icmp_ge (tgt := 36) hx hb dX4_pointsOf_9 (by decide) (fun hc => ?_) (fun hc => ?_)
    · have hq := hq.1 hc
      refine lv_iload_n hx hb dX4_pointsOf_36 rfl (lv_at hl 2 rfl) ?_
      exact w_iret (post := fun r (_ : Unit) => post r ) (wf := fun _ : Unit => wd4 cI h ad I R) (u := ()) hx hb hr hK hP hD hS hq dX4_pointsOf_37 hlocks
    · have hq := hq.2 hc
      refine lv_iload_n hx hb dX4_pointsOf_12 rfl (lv_at hl 1 rfl) ?_
      refine lv_iload_n hx hb dX4_pointsOf_13 rfl (lv_at hl 3 rfl) ?_
      refine lv_ishr hx hb dX4_pointsOf_14 ?_
      refine lv_iconst (v := (1 : Int32)) hx hb dX4_pointsOf_15 (by decide) ?_
      refine lv_iand hx hb dX4_pointsOf_16 ?_
      refine lv_iconst (v := (1 : Int32)) hx hb dX4_pointsOf_17 (by decide) ?_
      refine lv_icmp_ne (tgt := 30) hx hb dX4_pointsOf_18 (by decide) (fun hc => ?_) (fun hc => ?_)
      · have hq := hq.1 hc
        refine lv_iinc (v := x3 + (1 : Int32)) (lv' := [(3, .int (x3 + (1 : Int32))), (0, .ref h), (1, .int p1), (2, .int x2)]) hx hb dX4_pointsOf_30 hl (k := 3) rfl rfl (by decide) rfl (fun ls hl => ?_)
        refine lv_goto (tgt := 4) hx hb dX4_pointsOf_33 (by decide) ?_
        exact hq _ _ ls hP hD hS (lv_sub hl [1, 2, 3, 0] rfl)
      · have hq := hq.2 hc
        refine lv_iload_n hx hb dX4_pointsOf_21 rfl (lv_at hl 2 rfl) ?_
        refine lv_aload_n hx hb dX4_pointsOf_22 rfl (lv_at hl 0 rfl) ?_
        refine va_get (D := (dC, dI)) (ci := 4) (v := .ref (ad 5)) (C := RX4) (T := TX4) (N := 27) hx hb hts nX4_pointsOf_X4 hown hK hP 0 rfl rfl 5 (by decide) (hts _ mX4_pointsOf_f22) (fun _ h9 => h9) rfl dX4_pointsOf_23 ?_
        refine lv_iload_n hx hb dX4_pointsOf_26 rfl (lv_at hl 3 rfl) ?_
        obtain ⟨hi_1, hq⟩ := hq
        refine va_iald (f := R 5) hx hb hK hP 5 0 rfl rfl hi_1 dX4_pointsOf_27 ?_
        refine lv_iadd hx hb dX4_pointsOf_28 ?_
        refine lv_topi (fun x2_2 ex2_2 => ?_)
        have hq := hq x2_2 ex2_2
        refine lv_istore_n (lv' := [(2, .int x2_2), (0, .ref h), (1, .int p1), (3, .int x3)]) hx hb dX4_pointsOf_29 rfl hl (by decide) rfl (fun ls hl => ?_)
        refine lv_iinc (v := x3 + (1 : Int32)) (lv' := [(3, .int (x3 + (1 : Int32))), (2, .int x2_2), (0, .ref h), (1, .int p1)]) hx hb dX4_pointsOf_30 hl (k := 3) rfl rfl (by decide) rfl (fun ls hl => ?_)
        refine lv_goto (tgt := 4) hx hb dX4_pointsOf_33 (by decide) ?_
        exact hq _ _ ls hP hD hS (lv_sub hl [2, 3, 1, 0] rfl)
  have hl := lv_entry ([.ref h, .int p1]) (n := 4) (Nat.le_of_ble_eq_true rfl)
  rw [lg_entry_eq]
  generalize (lg_sl ([.ref h, .int p1]) ++ List.replicate (4 - (lg_sl ([.ref h, .int p1])).length) Slot.unset).toArray = ls at hl ⊢
  have hl : lv_has ls 4 [(0, .ref h), (1, .int p1)] := hl
  refine lv_iconst (v := (0 : Int32)) hx hb dX4_pointsOf_0 (by decide) ?_
  refine lv_istore_n (lv' := [(2, .int (0 : Int32)), (0, .ref h), (1, .int p1)]) hx hb dX4_pointsOf_1 rfl hl (by decide) rfl (fun ls hl => ?_)
  refine lv_iconst (v := (0 : Int32)) hx hb dX4_pointsOf_2 (by decide) ?_
  refine lv_istore_n (lv' := [(3, .int (0 : Int32)), (2, .int (0 : Int32)), (0, .ref h), (1, .int p1)]) hx hb dX4_pointsOf_3 rfl hl (by decide) rfl (fun ls hl => ?_)
  exact hq _ hZ _ _ ls hP hD hS (lv_sub hl [2, 3, 1, 0] rfl)
def qX4_left (post : Int32 → (Nat → Int32) → (Nat → Nat → Int32) → Prop) (p1 : Int32) (I : Nat → Int32) (R : Nat → Nat → Int32) : Prop := ∃ Pc_1 : Int32 → Prop, qX4_in Pc_1 p1 (0 : Int32) ((I 18) - (1 : Int32)) ∧ (∀ (rc_1 : Int32), Pc_1 rc_1 → (((rc_1 = 0) → (post (-1 : Int32) (va_up I 19 (0 : Int32)) R)) ∧ ((¬ rc_1 = 0) → (vp_in p1 14 ∧ (∃ Pc_3 : Int32 → Prop, qX4_pointsOf Pc_3 (R 17 p1.toNatClampNeg) (va_up I 19 (0 : Int32)) R ∧ (∀ (rc_3 : Int32), Pc_3 rc_3 → (post ((12 : Int32) - rc_3) (va_up I 19 (0 : Int32)) R)))))))
theorem mX4_left_f71 : Cond.fieldLink RX4 71 "YearBookModel" "thrown" "I" ∈ wsX4_left := by decide +kernel
theorem nX4_left_X4 : ∀ w ∈ u_ws RX4 TX4 27, w ∈ wsX4_left := by decide +kernel
theorem mX4_left_f114 : Cond.fieldLink RX4 114 "YearBookModel" "pageMany" "I" ∈ wsX4_left := by decide +kernel
theorem mX4_left_f50 : Cond.fieldLink RX4 50 "YearBookModel" "pages" "[I" ∈ wsX4_left := by decide +kernel
set_option maxHeartbeats 4000000 in
set_option maxRecDepth 100000 in
theorem tX4_left (l : Launch) (dC : Nat → ClassId) (dI : Nat → Nat → Nat) (cI : ClassId) (h : Nat) (ad : Nat → Nat)  (sz : Nat) (post : Int32 → (Nat → Int32) → (Nat → Nat → Int32) → Prop) (p1 : Int32) (I : Nat → Int32) (R : Nat → Nat → Int32) (hq : qX4_left post p1 I R) : Met l yX4_left wsX4_left ({ frames := 1, cells := 0, slots := 0, locals := 23 } : Room) (va_Pc [.ref h, .int p1] (wPre (dC, dI) vwCl [(cI, .int)] (wd4 cI h ad I R) sz)) (va_Qi (fun r (u : (Nat → Int32) × (Nat → Nat → Int32)) => post r u.1 u.2) (wAt (dC, dI) vwCl [(cI, .int)] (va_A (wd4 cI h ad I R) sz) (fun u : (Nat → Int32) × (Nat → Nat → Int32) => wd4 cI h ad u.1 u.2)) (va_A (wd4 cI h ad I R) sz)) 0 0 (va_A (wd4 cI h ad I R) sz) := by
  unfold qX4_left at hq
  refine Met.ofW (cc := cX4_left) (maxL := 2) (ret := (some .int)) (by decide) rfl ?_
  intro p e s m args below meth c s₁ B hml hv
  obtain ⟨rfl, hsz, hP, hK, hD0⟩ := hv
  have hx := B.exec
  have hb := B.bytes
  have hr := B.returns
  have hts := atoms_spec (ws := wsX4_left) B.pre
  have hown : s.vm.findClass RX4 = some m.cls := findClass_of_methodNamed B.named
  have hlocks := B.notSynchronized
  subst hsz
  have hD := hD0.self (sz := s.heap.size)
  generalize hAe : va_A (wd4 cI h ad I R) s.heap.size = A at hD ⊢
  have hA : ∀ q : Nat, s.heap.size ≤ q → A q := fun q h => by rw [← hAe]; exact Or.inr h
  have hS : va_S A s.heap s.heap [] := va_S.rf
  have hl := lv_entry ([.ref h, .int p1]) (n := 2) (Nat.le_of_ble_eq_true rfl)
  rw [lg_entry_eq]
  generalize (lg_sl ([.ref h, .int p1]) ++ List.replicate (2 - (lg_sl ([.ref h, .int p1])).length) Slot.unset).toArray = ls at hl ⊢
  have hl : lv_has ls 2 [(0, .ref h), (1, .int p1)] := hl
  refine lv_aload_n hx hb dX4_left_0 rfl (lv_at hl 0 rfl) ?_
  refine lv_iconst (v := (0 : Int32)) hx hb dX4_left_1 (by decide) ?_
  refine va_put (D := (dC, dI)) (ci := 4) (v := .int (0 : Int32)) (ty := .int) (C := RX4) (T := TX4) (N := 27) hx hb hts nX4_left_X4 tyX4 tyX4_ok nmX4 hown hK hP hD hS 0 rfl rfl 19 (by decide) (hts _ mX4_left_f71) (fun _ h9 => h9) rfl (by decide +kernel) rfl rfl (Nat.le_of_ble_eq_true rfl) dX4_left_2 (fun H locs hP hD hS => ?_)
  rw [wd4_I19] at hP hD
  refine lv_iload_n hx hb dX4_left_5 rfl (lv_at hl 1 rfl) ?_
  refine lv_iconst (v := (0 : Int32)) hx hb dX4_left_6 (by decide) ?_
  refine lv_aload_n hx hb dX4_left_7 rfl (lv_at hl 0 rfl) ?_
  refine va_get (D := (dC, dI)) (ci := 4) (v := .int (I 18)) (C := RX4) (T := TX4) (N := 27) hx hb hts nX4_left_X4 hown hK hP 0 rfl rfl 18 (by decide) (hts _ mX4_left_f114) (fun _ h9 => h9) rfl dX4_left_8 ?_
  refine lv_iconst (v := (1 : Int32)) hx hb dX4_left_11 (by decide) ?_
  refine lv_isub hx hb dX4_left_12 ?_
  obtain ⟨Pc_1, hc, hq⟩ := hq
  refine vp_callSi (W.runS (As := [.int p1, .int (0 : Int32), .int ((I 18) - (1 : Int32))]) (rest := []) ⟨hx, hb, hml, hown, hts⟩ (tX4_in l Pc_1 p1 (0 : Int32) ((I 18) - (1 : Int32)) hc) (va_cwS 3 hts gX4_left_X4_in rfl rfl rfl (by decide +kernel) ⟨Nat.le_of_ble_eq_true rfl, Nat.le_of_ble_eq_true rfl⟩) preEq rfl rfl hl.1 rfl (lv_room (Nat.le_of_ble_eq_true rfl)) dX4_left_13 ⟨Nat.le_of_ble_eq_true rfl, Nat.le_of_ble_eq_true rfl⟩) (fun rc_1 hp => ?_)
  have hq := hq rc_1 hp
  refine lv_if_eq (tgt := 35) hx hb dX4_left_16 (by decide) (fun hc => ?_) (fun hc => ?_)
  · have hq := hq.1 hc
    refine lv_iconst (v := (-1 : Int32)) hx hb dX4_left_35 (by decide) ?_
    exact w_iret (post := fun r (u : (Nat → Int32) × (Nat → Nat → Int32)) => post r u.1 u.2) (wf := fun u : (Nat → Int32) × (Nat → Nat → Int32) => wd4 cI h ad u.1 u.2) (u := (va_up I 19 (0 : Int32), R)) hx hb hr hK hP hD hS hq dX4_left_36 hlocks
  · have hq := hq.2 hc
    refine lv_bipush (v := (12 : Int32)) hx hb dX4_left_19 (by decide) ?_
    refine lv_aload_n hx hb dX4_left_21 rfl (lv_at hl 0 rfl) ?_
    refine lv_aload_n hx hb dX4_left_22 rfl (lv_at hl 0 rfl) ?_
    refine va_get (D := (dC, dI)) (ci := 4) (v := .ref (ad 17)) (C := RX4) (T := TX4) (N := 27) hx hb hts nX4_left_X4 hown hK hP 0 rfl rfl 17 (by decide) (hts _ mX4_left_f50) (fun _ h9 => h9) rfl dX4_left_23 ?_
    refine lv_iload_n hx hb dX4_left_26 rfl (lv_at hl 1 rfl) ?_
    obtain ⟨hi_2, hq⟩ := hq
    refine va_iald (f := R 17) hx hb hK hP 11 0 rfl rfl hi_2 dX4_left_27 ?_
    obtain ⟨Pc_3, hc, hq⟩ := hq
    refine w_calli (wf := fun _ : Unit => wd4 cI h ad (va_up I 19 (0 : Int32)) R) (va_runV (As := [.int (R 17 p1.toNatClampNeg)]) (rest := [.int (12 : Int32)]) ⟨hx, hb, hml, hown, hts⟩ (tX4_pointsOf l dC dI cI h ad _ Pc_3 (R 17 p1.toNatClampNeg) (va_up I 19 (0 : Int32)) R hc) (cwV 1 hts gX4_left_X4_pointsOf rfl rfl rfl (by decide +kernel) ⟨Nat.le_of_ble_eq_true rfl, Nat.le_of_ble_eq_true rfl⟩) (wPreV hK hP hD (ci := 4) (q0 := 0) rfl rfl) rfl rfl hl.1 rfl (lv_room (Nat.le_of_ble_eq_true rfl)) dX4_left_28 ⟨Nat.le_of_ble_eq_true rfl, Nat.le_of_ble_eq_true rfl⟩) hD hS hA (fun rc_3 u H locs hp hP hD hS => ?_)
    have hq := hq rc_3 hp
    have hP : va_P (dC, dI) vwCl (wd4 cI h ad (va_up I 19 (0 : Int32)) R) H := hP
    have hD : va_D A (wd4 cI h ad (va_up I 19 (0 : Int32)) R) := hD
    refine lv_isub hx hb dX4_left_31 ?_
    refine lv_goto (tgt := 36) hx hb dX4_left_32 (by decide) ?_
    exact w_iret (post := fun r (u : (Nat → Int32) × (Nat → Nat → Int32)) => post r u.1 u.2) (wf := fun u : (Nat → Int32) × (Nat → Nat → Int32) => wd4 cI h ad u.1 u.2) (u := (va_up I 19 (0 : Int32), R)) hx hb hr hK hP hD hS hq dX4_left_36 hlocks
def qX4_mend (post : Int32 → (Nat → Int32) → (Nat → Nat → Int32) → Prop) (I : Nat → Int32) (R : Nat → Nat → Int32) : Prop := ∃ Pc_1 : Int32 → (Nat → Int32) → (Nat → Nat → Int32) → Prop, qX4_search Pc_1 (1 : Int32) (va_up I 19 (0 : Int32)) R ∧ (∀ (rc_1 : Int32) (Ic_1 : Nat → Int32) (Rc_1 : Nat → Nat → Int32), Pc_1 rc_1 Ic_1 Rc_1 → (((¬ rc_1 = (-1 : Int32)) → (∃ Pc_2 : Int32 → Prop, qJ6_bitCount_0f7a4 Pc_2 (rc_1 ^^^ (Ic_1 16)) ∧ (∀ (rc_2 : Int32), Pc_2 rc_2 → (post rc_2 (va_up (va_up Ic_1 16 rc_1) 18 (0 : Int32)) Rc_1)))) ∧ ((rc_1 = (-1 : Int32)) → (post (-1 : Int32) Ic_1 Rc_1))))
theorem mX4_mend_f71 : Cond.fieldLink RX4 71 "YearBookModel" "thrown" "I" ∈ wsX4_mend := by decide +kernel
theorem nX4_mend_X4 : ∀ w ∈ u_ws RX4 TX4 27, w ∈ wsX4_mend := by decide +kernel
theorem mX4_mend_f108 : Cond.fieldLink RX4 108 "YearBookModel" "choice" "I" ∈ wsX4_mend := by decide +kernel
theorem mX4_mend_f114 : Cond.fieldLink RX4 114 "YearBookModel" "pageMany" "I" ∈ wsX4_mend := by decide +kernel
set_option maxHeartbeats 4000000 in
set_option maxRecDepth 100000 in
theorem tX4_mend (l : Launch) (dC : Nat → ClassId) (dI : Nat → Nat → Nat) (cI : ClassId) (h : Nat) (ad : Nat → Nat)  (sz : Nat) (post : Int32 → (Nat → Int32) → (Nat → Nat → Int32) → Prop) (I : Nat → Int32) (R : Nat → Nat → Int32) (hq : qX4_mend post I R) : Met l yX4_mend wsX4_mend ({ frames := 6, cells := 0, slots := 0, locals := 142 } : Room) (va_Pc [.ref h] (wPre (dC, dI) vwCl [(cI, .int)] (wd4 cI h ad I R) sz)) (va_Qi (fun r (u : (Nat → Int32) × (Nat → Nat → Int32)) => post r u.1 u.2) (wAt (dC, dI) vwCl [(cI, .int)] (va_A (wd4 cI h ad I R) sz) (fun u : (Nat → Int32) × (Nat → Nat → Int32) => wd4 cI h ad u.1 u.2)) (va_A (wd4 cI h ad I R) sz)) 0 0 (va_A (wd4 cI h ad I R) sz) := by
  unfold qX4_mend at hq
  refine Met.ofW (cc := cX4_mend) (maxL := 3) (ret := (some .int)) (by decide) rfl ?_
  intro p e s m args below meth c s₁ B hml hv
  obtain ⟨rfl, hsz, hP, hK, hD0⟩ := hv
  have hx := B.exec
  have hb := B.bytes
  have hr := B.returns
  have hts := atoms_spec (ws := wsX4_mend) B.pre
  have hown : s.vm.findClass RX4 = some m.cls := findClass_of_methodNamed B.named
  have hlocks := B.notSynchronized
  subst hsz
  have hD := hD0.self (sz := s.heap.size)
  generalize hAe : va_A (wd4 cI h ad I R) s.heap.size = A at hD ⊢
  have hA : ∀ q : Nat, s.heap.size ≤ q → A q := fun q h => by rw [← hAe]; exact Or.inr h
  have hS : va_S A s.heap s.heap [] := va_S.rf
  have hl := lv_entry ([.ref h]) (n := 3) (Nat.le_of_ble_eq_true rfl)
  rw [lg_entry_eq]
  generalize (lg_sl ([.ref h]) ++ List.replicate (3 - (lg_sl ([.ref h])).length) Slot.unset).toArray = ls at hl ⊢
  have hl : lv_has ls 3 [(0, .ref h)] := hl
  refine lv_aload_n hx hb dX4_mend_0 rfl (lv_at hl 0 rfl) ?_
  refine lv_iconst (v := (0 : Int32)) hx hb dX4_mend_1 (by decide) ?_
  refine va_put (D := (dC, dI)) (ci := 4) (v := .int (0 : Int32)) (ty := .int) (C := RX4) (T := TX4) (N := 27) hx hb hts nX4_mend_X4 tyX4 tyX4_ok nmX4 hown hK hP hD hS 0 rfl rfl 19 (by decide) (hts _ mX4_mend_f71) (fun _ h9 => h9) rfl (by decide +kernel) rfl rfl (Nat.le_of_ble_eq_true rfl) dX4_mend_2 (fun H locs hP hD hS => ?_)
  rw [wd4_I19] at hP hD
  refine lv_aload_n hx hb dX4_mend_5 rfl (lv_at hl 0 rfl) ?_
  refine lv_iconst (v := (1 : Int32)) hx hb dX4_mend_6 (by decide) ?_
  obtain ⟨Pc_1, hc, hq⟩ := hq
  refine w_calli (wf := fun u : (Nat → Int32) × (Nat → Nat → Int32) => wd4 cI h ad u.1 u.2) (va_runV (As := [.int (1 : Int32)]) (rest := []) ⟨hx, hb, hml, hown, hts⟩ (tX4_search l dC dI cI h ad _ Pc_1 (1 : Int32) (va_up I 19 (0 : Int32)) R hc) (cwV 1 hts gX4_mend_X4_search rfl rfl rfl (by decide +kernel) ⟨Nat.le_of_ble_eq_true rfl, Nat.le_of_ble_eq_true rfl⟩) (wPreV hK hP hD (ci := 4) (q0 := 0) rfl rfl) rfl rfl hl.1 rfl (lv_room (Nat.le_of_ble_eq_true rfl)) dX4_mend_7 ⟨Nat.le_of_ble_eq_true rfl, Nat.le_of_ble_eq_true rfl⟩) hD hS hA (fun rc_1 u H locs hp hP hD hS => ?_)
  obtain ⟨Ic_1, Rc_1⟩ := u
  have hq := hq rc_1 Ic_1 Rc_1 hp
  have hP : va_P (dC, dI) vwCl (wd4 cI h ad Ic_1 Rc_1) H := hP
  have hD : va_D A (wd4 cI h ad Ic_1 Rc_1) := hD
  refine lv_istore_n (lv' := [(1, .int rc_1), (0, .ref h)]) hx hb dX4_mend_10 rfl hl (by decide) rfl (fun ls hl => ?_)
  refine lv_iload_n hx hb dX4_mend_11 rfl (lv_at hl 0 rfl) ?_
  refine lv_iconst (v := (-1 : Int32)) hx hb dX4_mend_12 (by decide) ?_
  refine lv_icmp_ne (tgt := 18) hx hb dX4_mend_13 (by decide) (fun hc => ?_) (fun hc => ?_)
  · have hq := hq.1 hc
    refine lv_iload_n hx hb dX4_mend_18 rfl (lv_at hl 0 rfl) ?_
    refine lv_aload_n hx hb dX4_mend_19 rfl (lv_at hl 1 rfl) ?_
    refine va_get (D := (dC, dI)) (ci := 4) (v := .int (Ic_1 16)) (C := RX4) (T := TX4) (N := 27) hx hb hts nX4_mend_X4 hown hK hP 0 rfl rfl 16 (by decide) (hts _ mX4_mend_f108) (fun _ h9 => h9) rfl dX4_mend_20 ?_
    refine lv_ixor hx hb dX4_mend_23 ?_
    obtain ⟨Pc_2, hc, hq⟩ := hq
    refine vp_callSi (W.runS (As := [.int (rc_1 ^^^ (Ic_1 16))]) (rest := []) ⟨hx, hb, hml, hown, hts⟩ (tJ6_bitCount_0f7a4 l Pc_2 (rc_1 ^^^ (Ic_1 16)) hc) (va_cwS 1 hts gX4_mend_J6_bitCount_0f7a4 rfl rfl rfl (by decide +kernel) ⟨Nat.le_of_ble_eq_true rfl, Nat.le_of_ble_eq_true rfl⟩) preEq rfl rfl hl.1 rfl (lv_room (Nat.le_of_ble_eq_true rfl)) dX4_mend_24 ⟨Nat.le_of_ble_eq_true rfl, Nat.le_of_ble_eq_true rfl⟩) (fun rc_2 hp => ?_)
    have hq := hq rc_2 hp
    refine lv_istore_n (lv' := [(2, .int rc_2), (1, .int rc_1), (0, .ref h)]) hx hb dX4_mend_27 rfl hl (by decide) rfl (fun ls hl => ?_)
    refine lv_aload_n hx hb dX4_mend_28 rfl (lv_at hl 2 rfl) ?_
    refine lv_iload_n hx hb dX4_mend_29 rfl (lv_at hl 1 rfl) ?_
    refine va_put (D := (dC, dI)) (ci := 4) (v := .int rc_1) (ty := .int) (C := RX4) (T := TX4) (N := 27) hx hb hts nX4_mend_X4 tyX4 tyX4_ok nmX4 hown hK hP hD hS 0 rfl rfl 16 (by decide) (hts _ mX4_mend_f108) (fun _ h9 => h9) rfl (by decide +kernel) rfl rfl (Nat.le_of_ble_eq_true rfl) dX4_mend_30 (fun H locs hP hD hS => ?_)
    rw [wd4_I16] at hP hD
    refine lv_aload_n hx hb dX4_mend_33 rfl (lv_at hl 2 rfl) ?_
    refine lv_iconst (v := (0 : Int32)) hx hb dX4_mend_34 (by decide) ?_
    refine va_put (D := (dC, dI)) (ci := 4) (v := .int (0 : Int32)) (ty := .int) (C := RX4) (T := TX4) (N := 27) hx hb hts nX4_mend_X4 tyX4 tyX4_ok nmX4 hown hK hP hD hS 0 rfl rfl 18 (by decide) (hts _ mX4_mend_f114) (fun _ h9 => h9) rfl (by decide +kernel) rfl rfl (Nat.le_of_ble_eq_true rfl) dX4_mend_35 (fun H locs hP hD hS => ?_)
    rw [wd4_I18] at hP hD
    refine lv_iload_n hx hb dX4_mend_38 rfl (lv_at hl 0 rfl) ?_
    exact w_iret (post := fun r (u : (Nat → Int32) × (Nat → Nat → Int32)) => post r u.1 u.2) (wf := fun u : (Nat → Int32) × (Nat → Nat → Int32) => wd4 cI h ad u.1 u.2) (u := (va_up (va_up Ic_1 16 rc_1) 18 (0 : Int32), Rc_1)) hx hb hr hK hP hD hS hq dX4_mend_39 hlocks
  · have hq := hq.2 hc
    refine lv_iconst (v := (-1 : Int32)) hx hb dX4_mend_16 (by decide) ?_
    exact w_iret (post := fun r (u : (Nat → Int32) × (Nat → Nat → Int32)) => post r u.1 u.2) (wf := fun u : (Nat → Int32) × (Nat → Nat → Int32) => wd4 cI h ad u.1 u.2) (u := (Ic_1, Rc_1)) hx hb hr hK hP hD hS hq dX4_mend_17 hlocks
def zX4_nameAll (post : Int32 → (Nat → Int32) → (Nat → Nat → Int32) → Prop) (p1 : Int32) (X4 : Int32 → Int32 → (Nat → Int32) → (Nat → Nat → Int32) → Prop) (X37 : Int32 → Int32 → (Nat → Int32) → (Nat → Nat → Int32) → Prop) (X48 : Int32 → Int32 → Int32 → Int32 → (Nat → Int32) → (Nat → Nat → Int32) → Prop) (X112 : Int32 → Int32 → Int32 → Int32 → Int32 → (Nat → Int32) → (Nat → Nat → Int32) → Prop) (X175 : Int32 → Int32 → Int32 → (Nat → Int32) → (Nat → Nat → Int32) → Prop) (X186 : Int32 → Int32 → Int32 → Int32 → Int32 → (Nat → Int32) → (Nat → Nat → Int32) → Prop) : Prop :=
  (∀ (x2 : Int32) (x3 : Int32) (I : Nat → Int32) (R : Nat → Nat → Int32), (vp_in p1 14 ∧ ((((R 6 p1.toNatClampNeg) ≤ x3) → (X37 x2 (0 : Int32) I R)) ∧ ((¬ (R 6 p1.toNatClampNeg) ≤ x3) → (∃ Pc_2 : Int32 → Prop, qX4_may Pc_2 p1 x3 I R ∧ (∀ (rc_2 : Int32), Pc_2 rc_2 → (((rc_2 = 0) → (X4 x2 (x3 + (1 : Int32)) I R)) ∧ ((¬ rc_2 = 0) → (∀ x2_3 : Int32, x2_3 = x2 ||| ((1 : Int32) <<< (x3 &&& 31)) → (X4 x2_3 (x3 + (1 : Int32)) I R))))))))) → X4 x2 x3 I R) ∧
  (∀ (x2 : Int32) (x3 : Int32) (I : Nat → Int32) (R : Nat → Nat → Int32), (((x2 = 0) → (post x3 I R)) ∧ ((¬ x2 = 0) → (X48 x2 x3 (100 : Int32) (0 : Int32) I R))) → X37 x2 x3 I R) ∧
  (∀ (x2 : Int32) (x3 : Int32) (x4 : Int32) (x5 : Int32) (I : Nat → Int32) (R : Nat → Nat → Int32), (vp_in p1 14 ∧ ((((R 6 p1.toNatClampNeg) ≤ x5) → (X112 x2 x3 x4 (0 : Int32) (0 : Int32) I R)) ∧ ((¬ (R 6 p1.toNatClampNeg) ≤ x5) → (((¬ ((x2 >>> (x5 &&& 31)) &&& (1 : Int32)) = (1 : Int32)) → (X48 x2 x3 x4 (x5 + (1 : Int32)) I R)) ∧ ((((x2 >>> (x5 &&& 31)) &&& (1 : Int32)) = (1 : Int32)) → (vp_in (((8 : Int32) * p1) + x5) 112 ∧ (((x4 ≤ (R 9 (((8 : Int32) * p1) + x5).toNatClampNeg)) → (X48 x2 x3 x4 (x5 + (1 : Int32)) I R)) ∧ ((¬ x4 ≤ (R 9 (((8 : Int32) * p1) + x5).toNatClampNeg)) → (∀ x4_6 : Int32, x4_6 = R 9 (((8 : Int32) * p1) + x5).toNatClampNeg → (X48 x2 x3 x4_6 (x5 + (1 : Int32)) I R)))))))))) → X48 x2 x3 x4 x5 I R) ∧
  (∀ (x2 : Int32) (x3 : Int32) (x4 : Int32) (x5 : Int32) (x6 : Int32) (I : Nat → Int32) (R : Nat → Nat → Int32), (vp_in p1 14 ∧ ((((R 6 p1.toNatClampNeg) ≤ x6) → (∀ x2_8 : Int32, x2_8 = x2 ^^^ x5 → (X175 x2_8 x3 x5 I R))) ∧ ((¬ (R 6 p1.toNatClampNeg) ≤ x6) → (((¬ ((x2 >>> (x6 &&& 31)) &&& (1 : Int32)) = (1 : Int32)) → (X112 x2 x3 x4 x5 (x6 + (1 : Int32)) I R)) ∧ ((((x2 >>> (x6 &&& 31)) &&& (1 : Int32)) = (1 : Int32)) → (vp_in (((8 : Int32) * p1) + x6) 112 ∧ ((((x4 + (I 12)) < (R 9 (((8 : Int32) * p1) + x6).toNatClampNeg)) → (X112 x2 x3 x4 x5 (x6 + (1 : Int32)) I R)) ∧ ((¬ (x4 + (I 12)) < (R 9 (((8 : Int32) * p1) + x6).toNatClampNeg)) → (∀ x5_10 : Int32, x5_10 = x5 ||| ((1 : Int32) <<< (x6 &&& 31)) → (X112 x2 x3 x4 x5_10 (x6 + (1 : Int32)) I R)))))))))) → X112 x2 x3 x4 x5 x6 I R) ∧
  (∀ (x2 : Int32) (x3 : Int32) (x5 : Int32) (I : Nat → Int32) (R : Nat → Nat → Int32), (((x5 = 0) → (X37 x2 x3 I R)) ∧ ((¬ x5 = 0) → (X186 x2 x3 x5 (-1 : Int32) (0 : Int32) I R))) → X175 x2 x3 x5 I R) ∧
  (∀ (x2 : Int32) (x3 : Int32) (x5 : Int32) (x6 : Int32) (x7 : Int32) (I : Nat → Int32) (R : Nat → Nat → Int32), (vp_in p1 14 ∧ ((((R 6 p1.toNatClampNeg) ≤ x7) → (∀ x5_12 : Int32, x5_12 = x5 ^^^ ((1 : Int32) <<< (x6 &&& 31)) → (vp_in (((8 : Int32) * p1) + x6) 112 ∧ (vp_in x3 8 ∧ (X175 x2 (x3 + (1 : Int32)) x5_12 I (va_up R 21 (upd (R 21) x3.toNatClampNeg (R 7 (((8 : Int32) * p1) + x6).toNatClampNeg)))))))) ∧ ((¬ (R 6 p1.toNatClampNeg) ≤ x7) → (((¬ ((x5 >>> (x7 &&& 31)) &&& (1 : Int32)) = 0) → (∀ x8_15 : Int32, x8_15 = ((8 : Int32) * p1) + x7 → (∀ x9_16 : Int32, x9_16 = ((8 : Int32) * p1) + x6 → (((x6 = (-1 : Int32)) → (X186 x2 x3 x5 x7 (x7 + (1 : Int32)) I R)) ∧ ((¬ x6 = (-1 : Int32)) → (vp_in x8_15 112 ∧ (vp_in x9_16 112 ∧ ((((R 8 x8_15.toNatClampNeg) < (R 8 x9_16.toNatClampNeg)) → (X186 x2 x3 x5 x7 (x7 + (1 : Int32)) I R)) ∧ ((¬ (R 8 x8_15.toNatClampNeg) < (R 8 x9_16.toNatClampNeg)) → (((¬ (R 8 x8_15.toNatClampNeg) = (R 8 x9_16.toNatClampNeg)) → (X186 x2 x3 x5 x6 (x7 + (1 : Int32)) I R)) ∧ (((R 8 x8_15.toNatClampNeg) = (R 8 x9_16.toNatClampNeg)) → ((((R 7 x9_16.toNatClampNeg) ≤ (R 7 x8_15.toNatClampNeg)) → (X186 x2 x3 x5 x6 (x7 + (1 : Int32)) I R)) ∧ ((¬ (R 7 x9_16.toNatClampNeg) ≤ (R 7 x8_15.toNatClampNeg)) → (X186 x2 x3 x5 x7 (x7 + (1 : Int32)) I R)))))))))))))) ∧ ((((x5 >>> (x7 &&& 31)) &&& (1 : Int32)) = 0) → (X186 x2 x3 x5 x6 (x7 + (1 : Int32)) I R)))))) → X186 x2 x3 x5 x6 x7 I R)
def qX4_nameAll_4 (post : Int32 → (Nat → Int32) → (Nat → Nat → Int32) → Prop) (p1 : Int32) (x2 : Int32) (x3 : Int32) (I : Nat → Int32) (R : Nat → Nat → Int32) : Prop := ∀ (X4 : Int32 → Int32 → (Nat → Int32) → (Nat → Nat → Int32) → Prop) (X37 : Int32 → Int32 → (Nat → Int32) → (Nat → Nat → Int32) → Prop) (X48 : Int32 → Int32 → Int32 → Int32 → (Nat → Int32) → (Nat → Nat → Int32) → Prop) (X112 : Int32 → Int32 → Int32 → Int32 → Int32 → (Nat → Int32) → (Nat → Nat → Int32) → Prop) (X175 : Int32 → Int32 → Int32 → (Nat → Int32) → (Nat → Nat → Int32) → Prop) (X186 : Int32 → Int32 → Int32 → Int32 → Int32 → (Nat → Int32) → (Nat → Nat → Int32) → Prop), zX4_nameAll post p1 X4 X37 X48 X112 X175 X186 → X4 x2 x3 I R
def qX4_nameAll_37 (post : Int32 → (Nat → Int32) → (Nat → Nat → Int32) → Prop) (p1 : Int32) (x2 : Int32) (x3 : Int32) (I : Nat → Int32) (R : Nat → Nat → Int32) : Prop := ∀ (X4 : Int32 → Int32 → (Nat → Int32) → (Nat → Nat → Int32) → Prop) (X37 : Int32 → Int32 → (Nat → Int32) → (Nat → Nat → Int32) → Prop) (X48 : Int32 → Int32 → Int32 → Int32 → (Nat → Int32) → (Nat → Nat → Int32) → Prop) (X112 : Int32 → Int32 → Int32 → Int32 → Int32 → (Nat → Int32) → (Nat → Nat → Int32) → Prop) (X175 : Int32 → Int32 → Int32 → (Nat → Int32) → (Nat → Nat → Int32) → Prop) (X186 : Int32 → Int32 → Int32 → Int32 → Int32 → (Nat → Int32) → (Nat → Nat → Int32) → Prop), zX4_nameAll post p1 X4 X37 X48 X112 X175 X186 → X37 x2 x3 I R
def qX4_nameAll_48 (post : Int32 → (Nat → Int32) → (Nat → Nat → Int32) → Prop) (p1 : Int32) (x2 : Int32) (x3 : Int32) (x4 : Int32) (x5 : Int32) (I : Nat → Int32) (R : Nat → Nat → Int32) : Prop := ∀ (X4 : Int32 → Int32 → (Nat → Int32) → (Nat → Nat → Int32) → Prop) (X37 : Int32 → Int32 → (Nat → Int32) → (Nat → Nat → Int32) → Prop) (X48 : Int32 → Int32 → Int32 → Int32 → (Nat → Int32) → (Nat → Nat → Int32) → Prop) (X112 : Int32 → Int32 → Int32 → Int32 → Int32 → (Nat → Int32) → (Nat → Nat → Int32) → Prop) (X175 : Int32 → Int32 → Int32 → (Nat → Int32) → (Nat → Nat → Int32) → Prop) (X186 : Int32 → Int32 → Int32 → Int32 → Int32 → (Nat → Int32) → (Nat → Nat → Int32) → Prop), zX4_nameAll post p1 X4 X37 X48 X112 X175 X186 → X48 x2 x3 x4 x5 I R
def qX4_nameAll_112 (post : Int32 → (Nat → Int32) → (Nat → Nat → Int32) → Prop) (p1 : Int32) (x2 : Int32) (x3 : Int32) (x4 : Int32) (x5 : Int32) (x6 : Int32) (I : Nat → Int32) (R : Nat → Nat → Int32) : Prop := ∀ (X4 : Int32 → Int32 → (Nat → Int32) → (Nat → Nat → Int32) → Prop) (X37 : Int32 → Int32 → (Nat → Int32) → (Nat → Nat → Int32) → Prop) (X48 : Int32 → Int32 → Int32 → Int32 → (Nat → Int32) → (Nat → Nat → Int32) → Prop) (X112 : Int32 → Int32 → Int32 → Int32 → Int32 → (Nat → Int32) → (Nat → Nat → Int32) → Prop) (X175 : Int32 → Int32 → Int32 → (Nat → Int32) → (Nat → Nat → Int32) → Prop) (X186 : Int32 → Int32 → Int32 → Int32 → Int32 → (Nat → Int32) → (Nat → Nat → Int32) → Prop), zX4_nameAll post p1 X4 X37 X48 X112 X175 X186 → X112 x2 x3 x4 x5 x6 I R
def qX4_nameAll_175 (post : Int32 → (Nat → Int32) → (Nat → Nat → Int32) → Prop) (p1 : Int32) (x2 : Int32) (x3 : Int32) (x5 : Int32) (I : Nat → Int32) (R : Nat → Nat → Int32) : Prop := ∀ (X4 : Int32 → Int32 → (Nat → Int32) → (Nat → Nat → Int32) → Prop) (X37 : Int32 → Int32 → (Nat → Int32) → (Nat → Nat → Int32) → Prop) (X48 : Int32 → Int32 → Int32 → Int32 → (Nat → Int32) → (Nat → Nat → Int32) → Prop) (X112 : Int32 → Int32 → Int32 → Int32 → Int32 → (Nat → Int32) → (Nat → Nat → Int32) → Prop) (X175 : Int32 → Int32 → Int32 → (Nat → Int32) → (Nat → Nat → Int32) → Prop) (X186 : Int32 → Int32 → Int32 → Int32 → Int32 → (Nat → Int32) → (Nat → Nat → Int32) → Prop), zX4_nameAll post p1 X4 X37 X48 X112 X175 X186 → X175 x2 x3 x5 I R
def qX4_nameAll_186 (post : Int32 → (Nat → Int32) → (Nat → Nat → Int32) → Prop) (p1 : Int32) (x2 : Int32) (x3 : Int32) (x5 : Int32) (x6 : Int32) (x7 : Int32) (I : Nat → Int32) (R : Nat → Nat → Int32) : Prop := ∀ (X4 : Int32 → Int32 → (Nat → Int32) → (Nat → Nat → Int32) → Prop) (X37 : Int32 → Int32 → (Nat → Int32) → (Nat → Nat → Int32) → Prop) (X48 : Int32 → Int32 → Int32 → Int32 → (Nat → Int32) → (Nat → Nat → Int32) → Prop) (X112 : Int32 → Int32 → Int32 → Int32 → Int32 → (Nat → Int32) → (Nat → Nat → Int32) → Prop) (X175 : Int32 → Int32 → Int32 → (Nat → Int32) → (Nat → Nat → Int32) → Prop) (X186 : Int32 → Int32 → Int32 → Int32 → Int32 → (Nat → Int32) → (Nat → Nat → Int32) → Prop), zX4_nameAll post p1 X4 X37 X48 X112 X175 X186 → X186 x2 x3 x5 x6 x7 I R
theorem kX4_nameAll_4 {post : Int32 → (Nat → Int32) → (Nat → Nat → Int32) → Prop} {p1 : Int32} {x2 : Int32} {x3 : Int32} {I : Nat → Int32} {R : Nat → Nat → Int32} (h : vp_in p1 14 ∧ ((((R 6 p1.toNatClampNeg) ≤ x3) → (qX4_nameAll_37 post p1 x2 (0 : Int32) I R)) ∧ ((¬ (R 6 p1.toNatClampNeg) ≤ x3) → (∃ Pc_2 : Int32 → Prop, qX4_may Pc_2 p1 x3 I R ∧ (∀ (rc_2 : Int32), Pc_2 rc_2 → (((rc_2 = 0) → (qX4_nameAll_4 post p1 x2 (x3 + (1 : Int32)) I R)) ∧ ((¬ rc_2 = 0) → (∀ x2_3 : Int32, x2_3 = x2 ||| ((1 : Int32) <<< (x3 &&& 31)) → (qX4_nameAll_4 post p1 x2_3 (x3 + (1 : Int32)) I R))))))))) : qX4_nameAll_4 post p1 x2 x3 I R := by
  intro Z4 Z37 Z48 Z112 Z175 Z186 hcl
  refine hcl.1 x2 x3 I R ?_
  refine ⟨h.1, ?_⟩
  have h := h.2
  refine ⟨fun c => ?_, fun c => ?_⟩
  · have h := h.1 c
    exact h _ _ _ _ _ _ hcl
  · have h := h.2 c
    obtain ⟨P, h1, h2⟩ := h
    refine ⟨P, h1, fun b0 hp => ?_⟩
    have h := h2 b0 hp
    refine ⟨fun c => ?_, fun c => ?_⟩
    · have h := h.1 c
      exact h _ _ _ _ _ _ hcl
    · have h := h.2 c
      intro x e
      have h := h x e
      exact h _ _ _ _ _ _ hcl
theorem kX4_nameAll_37 {post : Int32 → (Nat → Int32) → (Nat → Nat → Int32) → Prop} {p1 : Int32} {x2 : Int32} {x3 : Int32} {I : Nat → Int32} {R : Nat → Nat → Int32} (h : ((x2 = 0) → (post x3 I R)) ∧ ((¬ x2 = 0) → (qX4_nameAll_48 post p1 x2 x3 (100 : Int32) (0 : Int32) I R))) : qX4_nameAll_37 post p1 x2 x3 I R := by
  intro Z4 Z37 Z48 Z112 Z175 Z186 hcl
  refine hcl.2.1 x2 x3 I R ?_
  refine ⟨fun c => ?_, fun c => ?_⟩
  · have h := h.1 c
    exact h
  · have h := h.2 c
    exact h _ _ _ _ _ _ hcl
theorem kX4_nameAll_48 {post : Int32 → (Nat → Int32) → (Nat → Nat → Int32) → Prop} {p1 : Int32} {x2 : Int32} {x3 : Int32} {x4 : Int32} {x5 : Int32} {I : Nat → Int32} {R : Nat → Nat → Int32} (h : vp_in p1 14 ∧ ((((R 6 p1.toNatClampNeg) ≤ x5) → (qX4_nameAll_112 post p1 x2 x3 x4 (0 : Int32) (0 : Int32) I R)) ∧ ((¬ (R 6 p1.toNatClampNeg) ≤ x5) → (((¬ ((x2 >>> (x5 &&& 31)) &&& (1 : Int32)) = (1 : Int32)) → (qX4_nameAll_48 post p1 x2 x3 x4 (x5 + (1 : Int32)) I R)) ∧ ((((x2 >>> (x5 &&& 31)) &&& (1 : Int32)) = (1 : Int32)) → (vp_in (((8 : Int32) * p1) + x5) 112 ∧ (((x4 ≤ (R 9 (((8 : Int32) * p1) + x5).toNatClampNeg)) → (qX4_nameAll_48 post p1 x2 x3 x4 (x5 + (1 : Int32)) I R)) ∧ ((¬ x4 ≤ (R 9 (((8 : Int32) * p1) + x5).toNatClampNeg)) → (∀ x4_6 : Int32, x4_6 = R 9 (((8 : Int32) * p1) + x5).toNatClampNeg → (qX4_nameAll_48 post p1 x2 x3 x4_6 (x5 + (1 : Int32)) I R)))))))))) : qX4_nameAll_48 post p1 x2 x3 x4 x5 I R := by
  intro Z4 Z37 Z48 Z112 Z175 Z186 hcl
  refine hcl.2.2.1 x2 x3 x4 x5 I R ?_
  refine ⟨h.1, ?_⟩
  have h := h.2
  refine ⟨fun c => ?_, fun c => ?_⟩
  · have h := h.1 c
    exact h _ _ _ _ _ _ hcl
  · have h := h.2 c
    refine ⟨fun c => ?_, fun c => ?_⟩
    · have h := h.1 c
      exact h _ _ _ _ _ _ hcl
    · have h := h.2 c
      refine ⟨h.1, ?_⟩
      have h := h.2
      refine ⟨fun c => ?_, fun c => ?_⟩
      · have h := h.1 c
        exact h _ _ _ _ _ _ hcl
      · have h := h.2 c
        intro x e
        have h := h x e
        exact h _ _ _ _ _ _ hcl
theorem kX4_nameAll_112 {post : Int32 → (Nat → Int32) → (Nat → Nat → Int32) → Prop} {p1 : Int32} {x2 : Int32} {x3 : Int32} {x4 : Int32} {x5 : Int32} {x6 : Int32} {I : Nat → Int32} {R : Nat → Nat → Int32} (h : vp_in p1 14 ∧ ((((R 6 p1.toNatClampNeg) ≤ x6) → (∀ x2_8 : Int32, x2_8 = x2 ^^^ x5 → (qX4_nameAll_175 post p1 x2_8 x3 x5 I R))) ∧ ((¬ (R 6 p1.toNatClampNeg) ≤ x6) → (((¬ ((x2 >>> (x6 &&& 31)) &&& (1 : Int32)) = (1 : Int32)) → (qX4_nameAll_112 post p1 x2 x3 x4 x5 (x6 + (1 : Int32)) I R)) ∧ ((((x2 >>> (x6 &&& 31)) &&& (1 : Int32)) = (1 : Int32)) → (vp_in (((8 : Int32) * p1) + x6) 112 ∧ ((((x4 + (I 12)) < (R 9 (((8 : Int32) * p1) + x6).toNatClampNeg)) → (qX4_nameAll_112 post p1 x2 x3 x4 x5 (x6 + (1 : Int32)) I R)) ∧ ((¬ (x4 + (I 12)) < (R 9 (((8 : Int32) * p1) + x6).toNatClampNeg)) → (∀ x5_10 : Int32, x5_10 = x5 ||| ((1 : Int32) <<< (x6 &&& 31)) → (qX4_nameAll_112 post p1 x2 x3 x4 x5_10 (x6 + (1 : Int32)) I R)))))))))) : qX4_nameAll_112 post p1 x2 x3 x4 x5 x6 I R := by
  intro Z4 Z37 Z48 Z112 Z175 Z186 hcl
  refine hcl.2.2.2.1 x2 x3 x4 x5 x6 I R ?_
  refine ⟨h.1, ?_⟩
  have h := h.2
  refine ⟨fun c => ?_, fun c => ?_⟩
  · have h := h.1 c
    intro x e
    have h := h x e
    exact h _ _ _ _ _ _ hcl
  · have h := h.2 c
    refine ⟨fun c => ?_, fun c => ?_⟩
    · have h := h.1 c
      exact h _ _ _ _ _ _ hcl
    · have h := h.2 c
      refine ⟨h.1, ?_⟩
      have h := h.2
      refine ⟨fun c => ?_, fun c => ?_⟩
      · have h := h.1 c
        exact h _ _ _ _ _ _ hcl
      · have h := h.2 c
        intro x e
        have h := h x e
        exact h _ _ _ _ _ _ hcl
theorem kX4_nameAll_175 {post : Int32 → (Nat → Int32) → (Nat → Nat → Int32) → Prop} {p1 : Int32} {x2 : Int32} {x3 : Int32} {x5 : Int32} {I : Nat → Int32} {R : Nat → Nat → Int32} (h : ((x5 = 0) → (qX4_nameAll_37 post p1 x2 x3 I R)) ∧ ((¬ x5 = 0) → (qX4_nameAll_186 post p1 x2 x3 x5 (-1 : Int32) (0 : Int32) I R))) : qX4_nameAll_175 post p1 x2 x3 x5 I R := by
  intro Z4 Z37 Z48 Z112 Z175 Z186 hcl
  refine hcl.2.2.2.2.1 x2 x3 x5 I R ?_
  refine ⟨fun c => ?_, fun c => ?_⟩
  · have h := h.1 c
    exact h _ _ _ _ _ _ hcl
  · have h := h.2 c
    exact h _ _ _ _ _ _ hcl
theorem kX4_nameAll_186 {post : Int32 → (Nat → Int32) → (Nat → Nat → Int32) → Prop} {p1 : Int32} {x2 : Int32} {x3 : Int32} {x5 : Int32} {x6 : Int32} {x7 : Int32} {I : Nat → Int32} {R : Nat → Nat → Int32} (h : vp_in p1 14 ∧ ((((R 6 p1.toNatClampNeg) ≤ x7) → (∀ x5_12 : Int32, x5_12 = x5 ^^^ ((1 : Int32) <<< (x6 &&& 31)) → (vp_in (((8 : Int32) * p1) + x6) 112 ∧ (vp_in x3 8 ∧ (qX4_nameAll_175 post p1 x2 (x3 + (1 : Int32)) x5_12 I (va_up R 21 (upd (R 21) x3.toNatClampNeg (R 7 (((8 : Int32) * p1) + x6).toNatClampNeg)))))))) ∧ ((¬ (R 6 p1.toNatClampNeg) ≤ x7) → (((¬ ((x5 >>> (x7 &&& 31)) &&& (1 : Int32)) = 0) → (∀ x8_15 : Int32, x8_15 = ((8 : Int32) * p1) + x7 → (∀ x9_16 : Int32, x9_16 = ((8 : Int32) * p1) + x6 → (((x6 = (-1 : Int32)) → (qX4_nameAll_186 post p1 x2 x3 x5 x7 (x7 + (1 : Int32)) I R)) ∧ ((¬ x6 = (-1 : Int32)) → (vp_in x8_15 112 ∧ (vp_in x9_16 112 ∧ ((((R 8 x8_15.toNatClampNeg) < (R 8 x9_16.toNatClampNeg)) → (qX4_nameAll_186 post p1 x2 x3 x5 x7 (x7 + (1 : Int32)) I R)) ∧ ((¬ (R 8 x8_15.toNatClampNeg) < (R 8 x9_16.toNatClampNeg)) → (((¬ (R 8 x8_15.toNatClampNeg) = (R 8 x9_16.toNatClampNeg)) → (qX4_nameAll_186 post p1 x2 x3 x5 x6 (x7 + (1 : Int32)) I R)) ∧ (((R 8 x8_15.toNatClampNeg) = (R 8 x9_16.toNatClampNeg)) → ((((R 7 x9_16.toNatClampNeg) ≤ (R 7 x8_15.toNatClampNeg)) → (qX4_nameAll_186 post p1 x2 x3 x5 x6 (x7 + (1 : Int32)) I R)) ∧ ((¬ (R 7 x9_16.toNatClampNeg) ≤ (R 7 x8_15.toNatClampNeg)) → (qX4_nameAll_186 post p1 x2 x3 x5 x7 (x7 + (1 : Int32)) I R)))))))))))))) ∧ ((((x5 >>> (x7 &&& 31)) &&& (1 : Int32)) = 0) → (qX4_nameAll_186 post p1 x2 x3 x5 x6 (x7 + (1 : Int32)) I R)))))) : qX4_nameAll_186 post p1 x2 x3 x5 x6 x7 I R := by
  intro Z4 Z37 Z48 Z112 Z175 Z186 hcl
  refine hcl.2.2.2.2.2 x2 x3 x5 x6 x7 I R ?_
  refine ⟨h.1, ?_⟩
  have h := h.2
  refine ⟨fun c => ?_, fun c => ?_⟩
  · have h := h.1 c
    intro x e
    have h := h x e
    refine ⟨h.1, ?_⟩
    have h := h.2
    refine ⟨h.1, ?_⟩
    have h := h.2
    exact h _ _ _ _ _ _ hcl
  · have h := h.2 c
    refine ⟨fun c => ?_, fun c => ?_⟩
    · have h := h.1 c
      intro x e
      have h := h x e
      intro x e
      have h := h x e
      refine ⟨fun c => ?_, fun c => ?_⟩
      · have h := h.1 c
        exact h _ _ _ _ _ _ hcl
      · have h := h.2 c
        refine ⟨h.1, ?_⟩
        have h := h.2
        refine ⟨h.1, ?_⟩
        have h := h.2
        refine ⟨fun c => ?_, fun c => ?_⟩
        · have h := h.1 c
          exact h _ _ _ _ _ _ hcl
        · have h := h.2 c
          refine ⟨fun c => ?_, fun c => ?_⟩
          · have h := h.1 c
            exact h _ _ _ _ _ _ hcl
          · have h := h.2 c
            refine ⟨fun c => ?_, fun c => ?_⟩
            · have h := h.1 c
              exact h _ _ _ _ _ _ hcl
            · have h := h.2 c
              exact h _ _ _ _ _ _ hcl
    · have h := h.2 c
      exact h _ _ _ _ _ _ hcl
def qX4_nameAll (post : Int32 → (Nat → Int32) → (Nat → Nat → Int32) → Prop) (p1 : Int32) (I : Nat → Int32) (R : Nat → Nat → Int32) : Prop := qX4_nameAll_4 post p1 (0 : Int32) (0 : Int32) I R
theorem mX4_nameAll_f25 : Cond.fieldLink RX4 25 "YearBookModel" "faces" "[I" ∈ wsX4_nameAll := by decide +kernel
theorem nX4_nameAll_X4 : ∀ w ∈ u_ws RX4 TX4 27, w ∈ wsX4_nameAll := by decide +kernel
theorem mX4_nameAll_f34 : Cond.fieldLink RX4 34 "YearBookModel" "y" "[I" ∈ wsX4_nameAll := by decide +kernel
theorem mX4_nameAll_f40 : Cond.fieldLink RX4 40 "YearBookModel" "span" "I" ∈ wsX4_nameAll := by decide +kernel
theorem mX4_nameAll_f56 : Cond.fieldLink RX4 56 "YearBookModel" "names" "[I" ∈ wsX4_nameAll := by decide +kernel
theorem mX4_nameAll_f28 : Cond.fieldLink RX4 28 "YearBookModel" "who" "[I" ∈ wsX4_nameAll := by decide +kernel
theorem mX4_nameAll_f31 : Cond.fieldLink RX4 31 "YearBookModel" "x" "[I" ∈ wsX4_nameAll := by decide +kernel
set_option maxHeartbeats 4000000 in
set_option maxRecDepth 100000 in
theorem tX4_nameAll (l : Launch) (dC : Nat → ClassId) (dI : Nat → Nat → Nat) (cI : ClassId) (h : Nat) (ad : Nat → Nat)  (sz : Nat) (post : Int32 → (Nat → Int32) → (Nat → Nat → Int32) → Prop) (p1 : Int32) (I : Nat → Int32) (R : Nat → Nat → Int32) (hq : qX4_nameAll post p1 I R) : Met l yX4_nameAll wsX4_nameAll ({ frames := 1, cells := 0, slots := 0, locals := 22 } : Room) (va_Pc [.ref h, .int p1] (wPre (dC, dI) vwCl [(cI, .int)] (wd4 cI h ad I R) sz)) (va_Qi (fun r (u : (Nat → Int32) × (Nat → Nat → Int32)) => post r u.1 u.2) (wAt (dC, dI) vwCl [(cI, .int)] (va_A (wd4 cI h ad I R) sz) (fun u : (Nat → Int32) × (Nat → Nat → Int32) => wd4 cI h ad u.1 u.2)) (va_A (wd4 cI h ad I R) sz)) 0 0 (va_A (wd4 cI h ad I R) sz) := by
  unfold qX4_nameAll at hq
  refine Met.ofW (cc := cX4_nameAll) (maxL := 10) (ret := (some .int)) (by decide) rfl ?_
  intro p e s m args below meth c s₁ B hml hv
  obtain ⟨rfl, hsz, hP, hK, hD0⟩ := hv
  have hx := B.exec
  have hb := B.bytes
  have hr := B.returns
  have hts := atoms_spec (ws := wsX4_nameAll) B.pre
  have hown : s.vm.findClass RX4 = some m.cls := findClass_of_methodNamed B.named
  have hlocks := B.notSynchronized
  subst hsz
  have hD := hD0.self (sz := s.heap.size)
  generalize hAe : va_A (wd4 cI h ad I R) s.heap.size = A at hD ⊢
  have hA : ∀ q : Nat, s.heap.size ≤ q → A q := fun q h => by rw [← hAe]; exact Or.inr h
  have hS : va_S A s.heap s.heap [] := va_S.rf
  have hZ : zX4_nameAll post p1
      (fun (x2 : Int32) (x3 : Int32) (I : Nat → Int32) (R : Nat → Nat → Int32) => ∀ (H : Heap) (locs : List Loc) (ls : Array Slot), va_P (dC, dI) vwCl (wd4 cI h ad I R) H → va_D A (wd4 cI h ad I R) → va_S A s.heap H locs → lv_has ls 10 [(0, .ref h), (1, .int p1), (2, .int x2), (3, .int x3)] → W p l e (headSpec wsX4_nameAll ({ frames := 1, cells := 0, slots := 0, locals := 22 } : Room)).room s m ([.ref h, .int p1] : List Value).toArray below meth c H locs 0 0 (MQ below (va_Qi (fun r (u : (Nat → Int32) × (Nat → Nat → Int32)) => post r u.1 u.2) (wAt (dC, dI) vwCl [(cI, .int)] A (fun u : (Nat → Int32) × (Nat → Nat → Int32) => wd4 cI h ad u.1 u.2)) A) ([.ref h, .int p1] : List Value).toArray s 0 0 A) (F0 m 4 ls []))
      (fun (x2 : Int32) (x3 : Int32) (I : Nat → Int32) (R : Nat → Nat → Int32) => ∀ (H : Heap) (locs : List Loc) (ls : Array Slot), va_P (dC, dI) vwCl (wd4 cI h ad I R) H → va_D A (wd4 cI h ad I R) → va_S A s.heap H locs → lv_has ls 10 [(0, .ref h), (1, .int p1), (2, .int x2), (3, .int x3)] → W p l e (headSpec wsX4_nameAll ({ frames := 1, cells := 0, slots := 0, locals := 22 } : Room)).room s m ([.ref h, .int p1] : List Value).toArray below meth c H locs 0 0 (MQ below (va_Qi (fun r (u : (Nat → Int32) × (Nat → Nat → Int32)) => post r u.1 u.2) (wAt (dC, dI) vwCl [(cI, .int)] A (fun u : (Nat → Int32) × (Nat → Nat → Int32) => wd4 cI h ad u.1 u.2)) A) ([.ref h, .int p1] : List Value).toArray s 0 0 A) (F0 m 37 ls []))
      (fun (x2 : Int32) (x3 : Int32) (x4 : Int32) (x5 : Int32) (I : Nat → Int32) (R : Nat → Nat → Int32) => ∀ (H : Heap) (locs : List Loc) (ls : Array Slot), va_P (dC, dI) vwCl (wd4 cI h ad I R) H → va_D A (wd4 cI h ad I R) → va_S A s.heap H locs → lv_has ls 10 [(0, .ref h), (1, .int p1), (2, .int x2), (3, .int x3), (4, .int x4), (5, .int x5)] → W p l e (headSpec wsX4_nameAll ({ frames := 1, cells := 0, slots := 0, locals := 22 } : Room)).room s m ([.ref h, .int p1] : List Value).toArray below meth c H locs 0 0 (MQ below (va_Qi (fun r (u : (Nat → Int32) × (Nat → Nat → Int32)) => post r u.1 u.2) (wAt (dC, dI) vwCl [(cI, .int)] A (fun u : (Nat → Int32) × (Nat → Nat → Int32) => wd4 cI h ad u.1 u.2)) A) ([.ref h, .int p1] : List Value).toArray s 0 0 A) (F0 m 48 ls []))
      (fun (x2 : Int32) (x3 : Int32) (x4 : Int32) (x5 : Int32) (x6 : Int32) (I : Nat → Int32) (R : Nat → Nat → Int32) => ∀ (H : Heap) (locs : List Loc) (ls : Array Slot), va_P (dC, dI) vwCl (wd4 cI h ad I R) H → va_D A (wd4 cI h ad I R) → va_S A s.heap H locs → lv_has ls 10 [(0, .ref h), (1, .int p1), (2, .int x2), (3, .int x3), (4, .int x4), (5, .int x5), (6, .int x6)] → W p l e (headSpec wsX4_nameAll ({ frames := 1, cells := 0, slots := 0, locals := 22 } : Room)).room s m ([.ref h, .int p1] : List Value).toArray below meth c H locs 0 0 (MQ below (va_Qi (fun r (u : (Nat → Int32) × (Nat → Nat → Int32)) => post r u.1 u.2) (wAt (dC, dI) vwCl [(cI, .int)] A (fun u : (Nat → Int32) × (Nat → Nat → Int32) => wd4 cI h ad u.1 u.2)) A) ([.ref h, .int p1] : List Value).toArray s 0 0 A) (F0 m 112 ls []))
      (fun (x2 : Int32) (x3 : Int32) (x5 : Int32) (I : Nat → Int32) (R : Nat → Nat → Int32) => ∀ (H : Heap) (locs : List Loc) (ls : Array Slot), va_P (dC, dI) vwCl (wd4 cI h ad I R) H → va_D A (wd4 cI h ad I R) → va_S A s.heap H locs → lv_has ls 10 [(0, .ref h), (1, .int p1), (2, .int x2), (3, .int x3), (5, .int x5)] → W p l e (headSpec wsX4_nameAll ({ frames := 1, cells := 0, slots := 0, locals := 22 } : Room)).room s m ([.ref h, .int p1] : List Value).toArray below meth c H locs 0 0 (MQ below (va_Qi (fun r (u : (Nat → Int32) × (Nat → Nat → Int32)) => post r u.1 u.2) (wAt (dC, dI) vwCl [(cI, .int)] A (fun u : (Nat → Int32) × (Nat → Nat → Int32) => wd4 cI h ad u.1 u.2)) A) ([.ref h, .int p1] : List Value).toArray s 0 0 A) (F0 m 175 ls []))
      (fun (x2 : Int32) (x3 : Int32) (x5 : Int32) (x6 : Int32) (x7 : Int32) (I : Nat → Int32) (R : Nat → Nat → Int32) => ∀ (H : Heap) (locs : List Loc) (ls : Array Slot), va_P (dC, dI) vwCl (wd4 cI h ad I R) H → va_D A (wd4 cI h ad I R) → va_S A s.heap H locs → lv_has ls 10 [(0, .ref h), (1, .int p1), (2, .int x2), (3, .int x3), (5, .int x5), (6, .int x6), (7, .int x7)] → W p l e (headSpec wsX4_nameAll ({ frames := 1, cells := 0, slots := 0, locals := 22 } : Room)).room s m ([.ref h, .int p1] : List Value).toArray below meth c H locs 0 0 (MQ below (va_Qi (fun r (u : (Nat → Int32) × (Nat → Nat → Int32)) => post r u.1 u.2) (wAt (dC, dI) vwCl [(cI, .int)] A (fun u : (Nat → Int32) × (Nat → Nat → Int32) => wd4 cI h ad u.1 u.2)) A) ([.ref h, .int p1] : List Value).toArray s 0 0 A) (F0 m 186 ls [])) := by
    refine ⟨?_, ?_, ?_, ?_, ?_, ?_⟩
    · intro x2 x3 I R hq H locs ls hP hD hS hl
      refine lv_iload_n hx hb dX4_nameAll_4 rfl (lv_at hl 3 rfl) ?_
      refine lv_aload_n hx hb dX4_nameAll_5 rfl (lv_at hl 0 rfl) ?_
      refine va_get (D := (dC, dI)) (ci := 4) (v := .ref (ad 6)) (C := RX4) (T := TX4) (N := 27) hx hb hts nX4_nameAll_X4 hown hK hP 0 rfl rfl 6 (by decide) (hts _ mX4_nameAll_f25) (fun _ h9 => h9) rfl dX4_nameAll_6 ?_
      refine lv_iload_n hx hb dX4_nameAll_9 rfl (lv_at hl 1 rfl) ?_
      obtain ⟨hi_1, hq⟩ := hq
      refine va_iald (f := R 6) hx hb hK hP 6 0 rfl rfl hi_1 dX4_nameAll_10 ?_
      refine lv_icmp_ge (tgt := 35) hx hb dX4_nameAll_11 (by decide) (fun hc => ?_) (fun hc => ?_)
      · have hq := hq.1 hc
        refine lv_iconst (v := (0 : Int32)) hx hb dX4_nameAll_35 (by decide) ?_
        refine lv_istore_n (lv' := [(3, .int (0 : Int32)), (0, .ref h), (1, .int p1), (2, .int x2)]) hx hb dX4_nameAll_36 rfl hl (by decide) rfl (fun ls hl => ?_)
        exact hq _ _ ls hP hD hS (lv_sub hl [1, 2, 3, 0] rfl)
      · have hq := hq.2 hc
        refine lv_aload_n hx hb dX4_nameAll_14 rfl (lv_at hl 0 rfl) ?_
        refine lv_iload_n hx hb dX4_nameAll_15 rfl (lv_at hl 1 rfl) ?_
        refine lv_iload_n hx hb dX4_nameAll_16 rfl (lv_at hl 3 rfl) ?_
        obtain ⟨Pc_2, hc, hq⟩ := hq
        refine w_calli (wf := fun _ : Unit => wd4 cI h ad I R) (va_runV (As := [.int p1, .int x3]) (rest := []) ⟨hx, hb, hml, hown, hts⟩ (tX4_may l dC dI cI h ad _ Pc_2 p1 x3 I R hc) (cwV 2 hts gX4_nameAll_X4_may rfl rfl rfl (by decide +kernel) ⟨Nat.le_of_ble_eq_true rfl, Nat.le_of_ble_eq_true rfl⟩) (wPreV hK hP hD (ci := 4) (q0 := 0) rfl rfl) rfl rfl hl.1 rfl (lv_room (Nat.le_of_ble_eq_true rfl)) dX4_nameAll_17 ⟨Nat.le_of_ble_eq_true rfl, Nat.le_of_ble_eq_true rfl⟩) hD hS hA (fun rc_2 u H locs hp hP hD hS => ?_)
        have hq := hq rc_2 hp
        have hP : va_P (dC, dI) vwCl (wd4 cI h ad I R) H := hP
        have hD : va_D A (wd4 cI h ad I R) := hD
        refine lv_if_eq (tgt := 29) hx hb dX4_nameAll_20 (by decide) (fun hc => ?_) (fun hc => ?_)
        · have hq := hq.1 hc
          refine lv_iinc (v := x3 + (1 : Int32)) (lv' := [(3, .int (x3 + (1 : Int32))), (0, .ref h), (1, .int p1), (2, .int x2)]) hx hb dX4_nameAll_29 hl (k := 3) rfl rfl (by decide) rfl (fun ls hl => ?_)
          refine lv_goto (tgt := 4) hx hb dX4_nameAll_32 (by decide) ?_
          exact hq _ _ ls hP hD hS (lv_sub hl [1, 2, 3, 0] rfl)
        · have hq := hq.2 hc
          refine lv_iload_n hx hb dX4_nameAll_23 rfl (lv_at hl 2 rfl) ?_
          refine lv_iconst (v := (1 : Int32)) hx hb dX4_nameAll_24 (by decide) ?_
          refine lv_iload_n hx hb dX4_nameAll_25 rfl (lv_at hl 3 rfl) ?_
          refine lv_ishl hx hb dX4_nameAll_26 ?_
          refine lv_ior hx hb dX4_nameAll_27 ?_
          refine lv_topi (fun x2_3 ex2_3 => ?_)
          have hq := hq x2_3 ex2_3
          refine lv_istore_n (lv' := [(2, .int x2_3), (0, .ref h), (1, .int p1), (3, .int x3)]) hx hb dX4_nameAll_28 rfl hl (by decide) rfl (fun ls hl => ?_)
          refine lv_iinc (v := x3 + (1 : Int32)) (lv' := [(3, .int (x3 + (1 : Int32))), (2, .int x2_3), (0, .ref h), (1, .int p1)]) hx hb dX4_nameAll_29 hl (k := 3) rfl rfl (by decide) rfl (fun ls hl => ?_)
          refine lv_goto (tgt := 4) hx hb dX4_nameAll_32 (by decide) ?_
          exact hq _ _ ls hP hD hS (lv_sub hl [2, 3, 1, 0] rfl)
    · intro x2 x3 I R hq H locs ls hP hD hS hl
      refine lv_iload_n hx hb dX4_nameAll_37 rfl (lv_at hl 2 rfl) ?_
      refine lv_if_eq (tgt := 331) hx hb dX4_nameAll_38 (by decide) (fun hc => ?_) (fun hc => ?_)
      · have hq := hq.1 hc
        refine lv_iload_n hx hb dX4_nameAll_331 rfl (lv_at hl 3 rfl) ?_
        exact w_iret (post := fun r (u : (Nat → Int32) × (Nat → Nat → Int32)) => post r u.1 u.2) (wf := fun u : (Nat → Int32) × (Nat → Nat → Int32) => wd4 cI h ad u.1 u.2) (u := (I, R)) hx hb hr hK hP hD hS hq dX4_nameAll_332 hlocks
      · have hq := hq.2 hc
        refine lv_bipush (v := (100 : Int32)) hx hb dX4_nameAll_41 (by decide) ?_
        refine lv_istore (lv' := [(4, .int (100 : Int32)), (0, .ref h), (1, .int p1), (2, .int x2), (3, .int x3)]) hx hb dX4_nameAll_43 hl (by decide) rfl (fun ls hl => ?_)
        refine lv_iconst (v := (0 : Int32)) hx hb dX4_nameAll_45 (by decide) ?_
        refine lv_istore (lv' := [(5, .int (0 : Int32)), (4, .int (100 : Int32)), (0, .ref h), (1, .int p1), (2, .int x2), (3, .int x3)]) hx hb dX4_nameAll_46 hl (by decide) rfl (fun ls hl => ?_)
        exact hq _ _ ls hP hD hS (lv_sub hl [2, 3, 4, 5, 1, 0] rfl)
    · intro x2 x3 x4 x5 I R hq H locs ls hP hD hS hl
      refine lv_iload hx hb dX4_nameAll_48 (lv_at hl 5 rfl) ?_
      refine lv_aload_n hx hb dX4_nameAll_50 rfl (lv_at hl 0 rfl) ?_
      refine va_get (D := (dC, dI)) (ci := 4) (v := .ref (ad 6)) (C := RX4) (T := TX4) (N := 27) hx hb hts nX4_nameAll_X4 hown hK hP 0 rfl rfl 6 (by decide) (hts _ mX4_nameAll_f25) (fun _ h9 => h9) rfl dX4_nameAll_51 ?_
      refine lv_iload_n hx hb dX4_nameAll_54 rfl (lv_at hl 1 rfl) ?_
      obtain ⟨hi_4, hq⟩ := hq
      refine va_iald (f := R 6) hx hb hK hP 6 0 rfl rfl hi_4 dX4_nameAll_55 ?_
      refine lv_icmp_ge (tgt := 106) hx hb dX4_nameAll_56 (by decide) (fun hc => ?_) (fun hc => ?_)
      · have hq := hq.1 hc
        refine lv_iconst (v := (0 : Int32)) hx hb dX4_nameAll_106 (by decide) ?_
        refine lv_istore (lv' := [(5, .int (0 : Int32)), (0, .ref h), (1, .int p1), (2, .int x2), (3, .int x3), (4, .int x4)]) hx hb dX4_nameAll_107 hl (by decide) rfl (fun ls hl => ?_)
        refine lv_iconst (v := (0 : Int32)) hx hb dX4_nameAll_109 (by decide) ?_
        refine lv_istore (lv' := [(6, .int (0 : Int32)), (5, .int (0 : Int32)), (0, .ref h), (1, .int p1), (2, .int x2), (3, .int x3), (4, .int x4)]) hx hb dX4_nameAll_110 hl (by decide) rfl (fun ls hl => ?_)
        exact hq _ _ ls hP hD hS (lv_sub hl [2, 3, 4, 5, 6, 1, 0] rfl)
      · have hq := hq.2 hc
        refine lv_iload_n hx hb dX4_nameAll_59 rfl (lv_at hl 2 rfl) ?_
        refine lv_iload hx hb dX4_nameAll_60 (lv_at hl 5 rfl) ?_
        refine lv_ishr hx hb dX4_nameAll_62 ?_
        refine lv_iconst (v := (1 : Int32)) hx hb dX4_nameAll_63 (by decide) ?_
        refine lv_iand hx hb dX4_nameAll_64 ?_
        refine lv_iconst (v := (1 : Int32)) hx hb dX4_nameAll_65 (by decide) ?_
        refine lv_icmp_ne (tgt := 100) hx hb dX4_nameAll_66 (by decide) (fun hc => ?_) (fun hc => ?_)
        · have hq := hq.1 hc
          refine lv_iinc (v := x5 + (1 : Int32)) (lv' := [(5, .int (x5 + (1 : Int32))), (0, .ref h), (1, .int p1), (2, .int x2), (3, .int x3), (4, .int x4)]) hx hb dX4_nameAll_100 hl (k := 5) rfl rfl (by decide) rfl (fun ls hl => ?_)
          refine lv_goto (tgt := 48) hx hb dX4_nameAll_103 (by decide) ?_
          exact hq _ _ ls hP hD hS (lv_sub hl [1, 2, 3, 4, 5, 0] rfl)
        · have hq := hq.2 hc
          refine lv_aload_n hx hb dX4_nameAll_69 rfl (lv_at hl 0 rfl) ?_
          refine va_get (D := (dC, dI)) (ci := 4) (v := .ref (ad 9)) (C := RX4) (T := TX4) (N := 27) hx hb hts nX4_nameAll_X4 hown hK hP 0 rfl rfl 9 (by decide) (hts _ mX4_nameAll_f34) (fun _ h9 => h9) rfl dX4_nameAll_70 ?_
          refine lv_bipush (v := (8 : Int32)) hx hb dX4_nameAll_73 (by decide) ?_
          refine lv_iload_n hx hb dX4_nameAll_75 rfl (lv_at hl 1 rfl) ?_
          refine lv_imul hx hb dX4_nameAll_76 ?_
          refine lv_iload hx hb dX4_nameAll_77 (lv_at hl 5 rfl) ?_
          refine lv_iadd hx hb dX4_nameAll_79 ?_
          obtain ⟨hi_5, hq⟩ := hq
          refine va_iald (f := R 9) hx hb hK hP 9 0 rfl rfl hi_5 dX4_nameAll_80 ?_
          refine lv_iload hx hb dX4_nameAll_81 (lv_at hl 4 rfl) ?_
          refine lv_icmp_ge (tgt := 100) hx hb dX4_nameAll_83 (by decide) (fun hc => ?_) (fun hc => ?_)
          · have hq := hq.1 hc
            refine lv_iinc (v := x5 + (1 : Int32)) (lv' := [(5, .int (x5 + (1 : Int32))), (0, .ref h), (1, .int p1), (2, .int x2), (3, .int x3), (4, .int x4)]) hx hb dX4_nameAll_100 hl (k := 5) rfl rfl (by decide) rfl (fun ls hl => ?_)
            refine lv_goto (tgt := 48) hx hb dX4_nameAll_103 (by decide) ?_
            exact hq _ _ ls hP hD hS (lv_sub hl [1, 2, 3, 4, 5, 0] rfl)
          · have hq := hq.2 hc
            refine lv_aload_n hx hb dX4_nameAll_86 rfl (lv_at hl 0 rfl) ?_
            refine va_get (D := (dC, dI)) (ci := 4) (v := .ref (ad 9)) (C := RX4) (T := TX4) (N := 27) hx hb hts nX4_nameAll_X4 hown hK hP 0 rfl rfl 9 (by decide) (hts _ mX4_nameAll_f34) (fun _ h9 => h9) rfl dX4_nameAll_87 ?_
            refine lv_bipush (v := (8 : Int32)) hx hb dX4_nameAll_90 (by decide) ?_
            refine lv_iload_n hx hb dX4_nameAll_92 rfl (lv_at hl 1 rfl) ?_
            refine lv_imul hx hb dX4_nameAll_93 ?_
            refine lv_iload hx hb dX4_nameAll_94 (lv_at hl 5 rfl) ?_
            refine lv_iadd hx hb dX4_nameAll_96 ?_
            refine va_iald (f := R 9) hx hb hK hP 9 0 rfl rfl hi_5 dX4_nameAll_97 ?_
            refine lv_topi (fun x4_6 ex4_6 => ?_)
            have hq := hq x4_6 ex4_6
            refine lv_istore (lv' := [(4, .int x4_6), (0, .ref h), (1, .int p1), (2, .int x2), (3, .int x3), (5, .int x5)]) hx hb dX4_nameAll_98 hl (by decide) rfl (fun ls hl => ?_)
            refine lv_iinc (v := x5 + (1 : Int32)) (lv' := [(5, .int (x5 + (1 : Int32))), (4, .int x4_6), (0, .ref h), (1, .int p1), (2, .int x2), (3, .int x3)]) hx hb dX4_nameAll_100 hl (k := 5) rfl rfl (by decide) rfl (fun ls hl => ?_)
            refine lv_goto (tgt := 48) hx hb dX4_nameAll_103 (by decide) ?_
            exact hq _ _ ls hP hD hS (lv_sub hl [2, 3, 4, 5, 1, 0] rfl)
    · intro x2 x3 x4 x5 x6 I R hq H locs ls hP hD hS hl
      refine lv_iload hx hb dX4_nameAll_112 (lv_at hl 6 rfl) ?_
      refine lv_aload_n hx hb dX4_nameAll_114 rfl (lv_at hl 0 rfl) ?_
      refine va_get (D := (dC, dI)) (ci := 4) (v := .ref (ad 6)) (C := RX4) (T := TX4) (N := 27) hx hb hts nX4_nameAll_X4 hown hK hP 0 rfl rfl 6 (by decide) (hts _ mX4_nameAll_f25) (fun _ h9 => h9) rfl dX4_nameAll_115 ?_
      refine lv_iload_n hx hb dX4_nameAll_118 rfl (lv_at hl 1 rfl) ?_
      obtain ⟨hi_7, hq⟩ := hq
      refine va_iald (f := R 6) hx hb hK hP 6 0 rfl rfl hi_7 dX4_nameAll_119 ?_
      refine lv_icmp_ge (tgt := 170) hx hb dX4_nameAll_120 (by decide) (fun hc => ?_) (fun hc => ?_)
      · have hq := hq.1 hc
        refine lv_iload_n hx hb dX4_nameAll_170 rfl (lv_at hl 2 rfl) ?_
        refine lv_iload hx hb dX4_nameAll_171 (lv_at hl 5 rfl) ?_
        refine lv_ixor hx hb dX4_nameAll_173 ?_
        refine lv_topi (fun x2_8 ex2_8 => ?_)
        have hq := hq x2_8 ex2_8
        refine lv_istore_n (lv' := [(2, .int x2_8), (0, .ref h), (1, .int p1), (3, .int x3), (4, .int x4), (5, .int x5), (6, .int x6)]) hx hb dX4_nameAll_174 rfl hl (by decide) rfl (fun ls hl => ?_)
        exact hq _ _ ls hP hD hS (lv_sub hl [1, 2, 0, 3, 5] rfl)
      · have hq := hq.2 hc
        refine lv_iload_n hx hb dX4_nameAll_123 rfl (lv_at hl 2 rfl) ?_
        refine lv_iload hx hb dX4_nameAll_124 (lv_at hl 6 rfl) ?_
        refine lv_ishr hx hb dX4_nameAll_126 ?_
        refine lv_iconst (v := (1 : Int32)) hx hb dX4_nameAll_127 (by decide) ?_
        refine lv_iand hx hb dX4_nameAll_128 ?_
        refine lv_iconst (v := (1 : Int32)) hx hb dX4_nameAll_129 (by decide) ?_
        refine lv_icmp_ne (tgt := 164) hx hb dX4_nameAll_130 (by decide) (fun hc => ?_) (fun hc => ?_)
        · have hq := hq.1 hc
          refine lv_iinc (v := x6 + (1 : Int32)) (lv' := [(6, .int (x6 + (1 : Int32))), (0, .ref h), (1, .int p1), (2, .int x2), (3, .int x3), (4, .int x4), (5, .int x5)]) hx hb dX4_nameAll_164 hl (k := 6) rfl rfl (by decide) rfl (fun ls hl => ?_)
          refine lv_goto (tgt := 112) hx hb dX4_nameAll_167 (by decide) ?_
          exact hq _ _ ls hP hD hS (lv_sub hl [1, 2, 3, 4, 5, 6, 0] rfl)
        · have hq := hq.2 hc
          refine lv_aload_n hx hb dX4_nameAll_133 rfl (lv_at hl 0 rfl) ?_
          refine va_get (D := (dC, dI)) (ci := 4) (v := .ref (ad 9)) (C := RX4) (T := TX4) (N := 27) hx hb hts nX4_nameAll_X4 hown hK hP 0 rfl rfl 9 (by decide) (hts _ mX4_nameAll_f34) (fun _ h9 => h9) rfl dX4_nameAll_134 ?_
          refine lv_bipush (v := (8 : Int32)) hx hb dX4_nameAll_137 (by decide) ?_
          refine lv_iload_n hx hb dX4_nameAll_139 rfl (lv_at hl 1 rfl) ?_
          refine lv_imul hx hb dX4_nameAll_140 ?_
          refine lv_iload hx hb dX4_nameAll_141 (lv_at hl 6 rfl) ?_
          refine lv_iadd hx hb dX4_nameAll_143 ?_
          obtain ⟨hi_9, hq⟩ := hq
          refine va_iald (f := R 9) hx hb hK hP 9 0 rfl rfl hi_9 dX4_nameAll_144 ?_
          refine lv_iload hx hb dX4_nameAll_145 (lv_at hl 4 rfl) ?_
          refine lv_aload_n hx hb dX4_nameAll_147 rfl (lv_at hl 0 rfl) ?_
          refine va_get (D := (dC, dI)) (ci := 4) (v := .int (I 12)) (C := RX4) (T := TX4) (N := 27) hx hb hts nX4_nameAll_X4 hown hK hP 0 rfl rfl 12 (by decide) (hts _ mX4_nameAll_f40) (fun _ h9 => h9) rfl dX4_nameAll_148 ?_
          refine lv_iadd hx hb dX4_nameAll_151 ?_
          refine lv_icmp_gt (tgt := 164) hx hb dX4_nameAll_152 (by decide) (fun hc => ?_) (fun hc => ?_)
          · have hq := hq.1 hc
            refine lv_iinc (v := x6 + (1 : Int32)) (lv' := [(6, .int (x6 + (1 : Int32))), (0, .ref h), (1, .int p1), (2, .int x2), (3, .int x3), (4, .int x4), (5, .int x5)]) hx hb dX4_nameAll_164 hl (k := 6) rfl rfl (by decide) rfl (fun ls hl => ?_)
            refine lv_goto (tgt := 112) hx hb dX4_nameAll_167 (by decide) ?_
            exact hq _ _ ls hP hD hS (lv_sub hl [1, 2, 3, 4, 5, 6, 0] rfl)
          · have hq := hq.2 hc
            refine lv_iload hx hb dX4_nameAll_155 (lv_at hl 5 rfl) ?_
            refine lv_iconst (v := (1 : Int32)) hx hb dX4_nameAll_157 (by decide) ?_
            refine lv_iload hx hb dX4_nameAll_158 (lv_at hl 6 rfl) ?_
            refine lv_ishl hx hb dX4_nameAll_160 ?_
            refine lv_ior hx hb dX4_nameAll_161 ?_
            refine lv_topi (fun x5_10 ex5_10 => ?_)
            have hq := hq x5_10 ex5_10
            refine lv_istore (lv' := [(5, .int x5_10), (0, .ref h), (1, .int p1), (2, .int x2), (3, .int x3), (4, .int x4), (6, .int x6)]) hx hb dX4_nameAll_162 hl (by decide) rfl (fun ls hl => ?_)
            refine lv_iinc (v := x6 + (1 : Int32)) (lv' := [(6, .int (x6 + (1 : Int32))), (5, .int x5_10), (0, .ref h), (1, .int p1), (2, .int x2), (3, .int x3), (4, .int x4)]) hx hb dX4_nameAll_164 hl (k := 6) rfl rfl (by decide) rfl (fun ls hl => ?_)
            refine lv_goto (tgt := 112) hx hb dX4_nameAll_167 (by decide) ?_
            exact hq _ _ ls hP hD hS (lv_sub hl [2, 3, 4, 5, 6, 1, 0] rfl)
    · intro x2 x3 x5 I R hq H locs ls hP hD hS hl
      refine lv_iload hx hb dX4_nameAll_175 (lv_at hl 4 rfl) ?_
      refine lv_if_eq (tgt := 328) hx hb dX4_nameAll_177 (by decide) (fun hc => ?_) (fun hc => ?_)
      · have hq := hq.1 hc
        refine lv_goto (tgt := 37) hx hb dX4_nameAll_328 (by decide) ?_
        exact hq _ _ ls hP hD hS (lv_sub hl [0, 1, 2, 3] rfl)
      · have hq := hq.2 hc
        refine lv_iconst (v := (-1 : Int32)) hx hb dX4_nameAll_180 (by decide) ?_
        refine lv_istore (lv' := [(6, .int (-1 : Int32)), (0, .ref h), (1, .int p1), (2, .int x2), (3, .int x3), (5, .int x5)]) hx hb dX4_nameAll_181 hl (by decide) rfl (fun ls hl => ?_)
        refine lv_iconst (v := (0 : Int32)) hx hb dX4_nameAll_183 (by decide) ?_
        refine lv_istore (lv' := [(7, .int (0 : Int32)), (6, .int (-1 : Int32)), (0, .ref h), (1, .int p1), (2, .int x2), (3, .int x3), (5, .int x5)]) hx hb dX4_nameAll_184 hl (by decide) rfl (fun ls hl => ?_)
        exact hq _ _ ls hP hD hS (lv_sub hl [2, 3, 4, 5, 6, 1, 0] rfl)
    · intro x2 x3 x5 x6 x7 I R hq H locs ls hP hD hS hl
      refine lv_iload hx hb dX4_nameAll_186 (lv_at hl 6 rfl) ?_
      refine lv_aload_n hx hb dX4_nameAll_188 rfl (lv_at hl 0 rfl) ?_
      refine va_get (D := (dC, dI)) (ci := 4) (v := .ref (ad 6)) (C := RX4) (T := TX4) (N := 27) hx hb hts nX4_nameAll_X4 hown hK hP 0 rfl rfl 6 (by decide) (hts _ mX4_nameAll_f25) (fun _ h9 => h9) rfl dX4_nameAll_189 ?_
      refine lv_iload_n hx hb dX4_nameAll_192 rfl (lv_at hl 1 rfl) ?_
      obtain ⟨hi_11, hq⟩ := hq
      refine va_iald (f := R 6) hx hb hK hP 6 0 rfl rfl hi_11 dX4_nameAll_193 ?_
      refine lv_icmp_ge (tgt := 295) hx hb dX4_nameAll_194 (by decide) (fun hc => ?_) (fun hc => ?_)
      · have hq := hq.1 hc
        refine lv_iload hx hb dX4_nameAll_295 (lv_at hl 4 rfl) ?_
        refine lv_iconst (v := (1 : Int32)) hx hb dX4_nameAll_297 (by decide) ?_
        refine lv_iload hx hb dX4_nameAll_298 (lv_at hl 5 rfl) ?_
        refine lv_ishl hx hb dX4_nameAll_300 ?_
        refine lv_ixor hx hb dX4_nameAll_301 ?_
        refine lv_topi (fun x5_12 ex5_12 => ?_)
        have hq := hq x5_12 ex5_12
        refine lv_istore (lv' := [(5, .int x5_12), (0, .ref h), (1, .int p1), (2, .int x2), (3, .int x3), (6, .int x6), (7, .int x7)]) hx hb dX4_nameAll_302 hl (by decide) rfl (fun ls hl => ?_)
        refine lv_aload_n hx hb dX4_nameAll_304 rfl (lv_at hl 1 rfl) ?_
        refine va_get (D := (dC, dI)) (ci := 4) (v := .ref (ad 21)) (C := RX4) (T := TX4) (N := 27) hx hb hts nX4_nameAll_X4 hown hK hP 0 rfl rfl 21 (by decide) (hts _ mX4_nameAll_f56) (fun _ h9 => h9) rfl dX4_nameAll_305 ?_
        refine lv_iload_n hx hb dX4_nameAll_308 rfl (lv_at hl 4 rfl) ?_
        refine lv_aload_n hx hb dX4_nameAll_309 rfl (lv_at hl 1 rfl) ?_
        refine va_get (D := (dC, dI)) (ci := 4) (v := .ref (ad 7)) (C := RX4) (T := TX4) (N := 27) hx hb hts nX4_nameAll_X4 hown hK hP 0 rfl rfl 7 (by decide) (hts _ mX4_nameAll_f28) (fun _ h9 => h9) rfl dX4_nameAll_310 ?_
        refine lv_bipush (v := (8 : Int32)) hx hb dX4_nameAll_313 (by decide) ?_
        refine lv_iload_n hx hb dX4_nameAll_315 rfl (lv_at hl 2 rfl) ?_
        refine lv_imul hx hb dX4_nameAll_316 ?_
        refine lv_iload hx hb dX4_nameAll_317 (lv_at hl 5 rfl) ?_
        refine lv_iadd hx hb dX4_nameAll_319 ?_
        obtain ⟨hi_13, hq⟩ := hq
        refine va_iald (f := R 7) hx hb hK hP 7 0 rfl rfl hi_13 dX4_nameAll_320 ?_
        obtain ⟨hi_14, hq⟩ := hq
        refine va_iast (f := R 21) hx hb hK hP hD hS 13 0 rfl rfl hi_14 dX4_nameAll_321 (fun H locs hP hD hS => ?_)
        rw [wd4_R21] at hP hD
        refine lv_iinc (v := x3 + (1 : Int32)) (lv' := [(3, .int (x3 + (1 : Int32))), (5, .int x5_12), (0, .ref h), (1, .int p1), (2, .int x2), (6, .int x6), (7, .int x7)]) hx hb dX4_nameAll_322 hl (k := 4) rfl rfl (by decide) rfl (fun ls hl => ?_)
        refine lv_goto (tgt := 175) hx hb dX4_nameAll_325 (by decide) ?_
        exact hq _ _ ls hP hD hS (lv_sub hl [2, 3, 4, 0, 1] rfl)
      · have hq := hq.2 hc
        refine lv_iload hx hb dX4_nameAll_197 (lv_at hl 4 rfl) ?_
        refine lv_iload hx hb dX4_nameAll_199 (lv_at hl 6 rfl) ?_
        refine lv_ishr hx hb dX4_nameAll_201 ?_
        refine lv_iconst (v := (1 : Int32)) hx hb dX4_nameAll_202 (by decide) ?_
        refine lv_iand hx hb dX4_nameAll_203 ?_
        refine lv_if_ne (tgt := 210) hx hb dX4_nameAll_204 (by decide) (fun hc => ?_) (fun hc => ?_)
        · have hq := hq.1 hc
          refine lv_bipush (v := (8 : Int32)) hx hb dX4_nameAll_210 (by decide) ?_
          refine lv_iload_n hx hb dX4_nameAll_212 rfl (lv_at hl 1 rfl) ?_
          refine lv_imul hx hb dX4_nameAll_213 ?_
          refine lv_iload hx hb dX4_nameAll_214 (lv_at hl 6 rfl) ?_
          refine lv_iadd hx hb dX4_nameAll_216 ?_
          refine lv_topi (fun x8_15 ex8_15 => ?_)
          have hq := hq x8_15 ex8_15
          refine lv_istore (lv' := [(8, .int x8_15), (0, .ref h), (1, .int p1), (2, .int x2), (3, .int x3), (5, .int x5), (6, .int x6), (7, .int x7)]) hx hb dX4_nameAll_217 hl (by decide) rfl (fun ls hl => ?_)
          refine lv_bipush (v := (8 : Int32)) hx hb dX4_nameAll_219 (by decide) ?_
          refine lv_iload_n hx hb dX4_nameAll_221 rfl (lv_at hl 2 rfl) ?_
          refine lv_imul hx hb dX4_nameAll_222 ?_
          refine lv_iload hx hb dX4_nameAll_223 (lv_at hl 6 rfl) ?_
          refine lv_iadd hx hb dX4_nameAll_225 ?_
          refine lv_topi (fun x9_16 ex9_16 => ?_)
          have hq := hq x9_16 ex9_16
          refine lv_istore (lv' := [(9, .int x9_16), (8, .int x8_15), (0, .ref h), (1, .int p1), (2, .int x2), (3, .int x3), (5, .int x5), (6, .int x6), (7, .int x7)]) hx hb dX4_nameAll_226 hl (by decide) rfl (fun ls hl => ?_)
          refine lv_iload hx hb dX4_nameAll_228 (lv_at hl 7 rfl) ?_
          refine lv_iconst (v := (-1 : Int32)) hx hb dX4_nameAll_230 (by decide) ?_
          refine lv_icmp_eq (tgt := 285) hx hb dX4_nameAll_231 (by decide) (fun hc => ?_) (fun hc => ?_)
          · have hq := hq.1 hc
            refine lv_iload hx hb dX4_nameAll_285 (lv_at hl 8 rfl) ?_
            refine lv_istore (lv' := [(6, .int x7), (9, .int x9_16), (8, .int x8_15), (0, .ref h), (1, .int p1), (2, .int x2), (3, .int x3), (5, .int x5), (7, .int x7)]) hx hb dX4_nameAll_287 hl (by decide) rfl (fun ls hl => ?_)
            refine lv_iinc (v := x7 + (1 : Int32)) (lv' := [(7, .int (x7 + (1 : Int32))), (6, .int x7), (9, .int x9_16), (8, .int x8_15), (0, .ref h), (1, .int p1), (2, .int x2), (3, .int x3), (5, .int x5)]) hx hb dX4_nameAll_289 hl (k := 8) rfl rfl (by decide) rfl (fun ls hl => ?_)
            refine lv_goto (tgt := 186) hx hb dX4_nameAll_292 (by decide) ?_
            exact hq _ _ ls hP hD hS (lv_sub hl [4, 5, 6, 7, 8, 1, 0] rfl)
          · have hq := hq.2 hc
            refine lv_aload_n hx hb dX4_nameAll_234 rfl (lv_at hl 2 rfl) ?_
            refine va_get (D := (dC, dI)) (ci := 4) (v := .ref (ad 8)) (C := RX4) (T := TX4) (N := 27) hx hb hts nX4_nameAll_X4 hown hK hP 0 rfl rfl 8 (by decide) (hts _ mX4_nameAll_f31) (fun _ h9 => h9) rfl dX4_nameAll_235 ?_
            refine lv_iload hx hb dX4_nameAll_238 (lv_at hl 1 rfl) ?_
            obtain ⟨hi_17, hq⟩ := hq
            refine va_iald (f := R 8) hx hb hK hP 8 0 rfl rfl hi_17 dX4_nameAll_240 ?_
            refine lv_aload_n hx hb dX4_nameAll_241 rfl (lv_at hl 2 rfl) ?_
            refine va_get (D := (dC, dI)) (ci := 4) (v := .ref (ad 8)) (C := RX4) (T := TX4) (N := 27) hx hb hts nX4_nameAll_X4 hown hK hP 0 rfl rfl 8 (by decide) (hts _ mX4_nameAll_f31) (fun _ h9 => h9) rfl dX4_nameAll_242 ?_
            refine lv_iload hx hb dX4_nameAll_245 (lv_at hl 0 rfl) ?_
            obtain ⟨hi_18, hq⟩ := hq
            refine va_iald (f := R 8) hx hb hK hP 8 0 rfl rfl hi_18 dX4_nameAll_247 ?_
            refine lv_icmp_lt (tgt := 285) hx hb dX4_nameAll_248 (by decide) (fun hc => ?_) (fun hc => ?_)
            · have hq := hq.1 hc
              refine lv_iload hx hb dX4_nameAll_285 (lv_at hl 8 rfl) ?_
              refine lv_istore (lv' := [(6, .int x7), (9, .int x9_16), (8, .int x8_15), (0, .ref h), (1, .int p1), (2, .int x2), (3, .int x3), (5, .int x5), (7, .int x7)]) hx hb dX4_nameAll_287 hl (by decide) rfl (fun ls hl => ?_)
              refine lv_iinc (v := x7 + (1 : Int32)) (lv' := [(7, .int (x7 + (1 : Int32))), (6, .int x7), (9, .int x9_16), (8, .int x8_15), (0, .ref h), (1, .int p1), (2, .int x2), (3, .int x3), (5, .int x5)]) hx hb dX4_nameAll_289 hl (k := 8) rfl rfl (by decide) rfl (fun ls hl => ?_)
              refine lv_goto (tgt := 186) hx hb dX4_nameAll_292 (by decide) ?_
              exact hq _ _ ls hP hD hS (lv_sub hl [4, 5, 6, 7, 8, 1, 0] rfl)
            · have hq := hq.2 hc
              refine lv_aload_n hx hb dX4_nameAll_251 rfl (lv_at hl 2 rfl) ?_
              refine va_get (D := (dC, dI)) (ci := 4) (v := .ref (ad 8)) (C := RX4) (T := TX4) (N := 27) hx hb hts nX4_nameAll_X4 hown hK hP 0 rfl rfl 8 (by decide) (hts _ mX4_nameAll_f31) (fun _ h9 => h9) rfl dX4_nameAll_252 ?_
              refine lv_iload hx hb dX4_nameAll_255 (lv_at hl 1 rfl) ?_
              refine va_iald (f := R 8) hx hb hK hP 8 0 rfl rfl hi_17 dX4_nameAll_257 ?_
              refine lv_aload_n hx hb dX4_nameAll_258 rfl (lv_at hl 2 rfl) ?_
              refine va_get (D := (dC, dI)) (ci := 4) (v := .ref (ad 8)) (C := RX4) (T := TX4) (N := 27) hx hb hts nX4_nameAll_X4 hown hK hP 0 rfl rfl 8 (by decide) (hts _ mX4_nameAll_f31) (fun _ h9 => h9) rfl dX4_nameAll_259 ?_
              refine lv_iload hx hb dX4_nameAll_262 (lv_at hl 0 rfl) ?_
              refine va_iald (f := R 8) hx hb hK hP 8 0 rfl rfl hi_18 dX4_nameAll_264 ?_
              refine lv_icmp_ne (tgt := 289) hx hb dX4_nameAll_265 (by decide) (fun hc => ?_) (fun hc => ?_)
              · have hq := hq.1 hc
                refine lv_iinc (v := x7 + (1 : Int32)) (lv' := [(7, .int (x7 + (1 : Int32))), (9, .int x9_16), (8, .int x8_15), (0, .ref h), (1, .int p1), (2, .int x2), (3, .int x3), (5, .int x5), (6, .int x6)]) hx hb dX4_nameAll_289 hl (k := 8) rfl rfl (by decide) rfl (fun ls hl => ?_)
                refine lv_goto (tgt := 186) hx hb dX4_nameAll_292 (by decide) ?_
                exact hq _ _ ls hP hD hS (lv_sub hl [3, 4, 5, 6, 7, 8, 0] rfl)
              · have hq := hq.2 hc
                refine lv_aload_n hx hb dX4_nameAll_268 rfl (lv_at hl 2 rfl) ?_
                refine va_get (D := (dC, dI)) (ci := 4) (v := .ref (ad 7)) (C := RX4) (T := TX4) (N := 27) hx hb hts nX4_nameAll_X4 hown hK hP 0 rfl rfl 7 (by decide) (hts _ mX4_nameAll_f28) (fun _ h9 => h9) rfl dX4_nameAll_269 ?_
                refine lv_iload hx hb dX4_nameAll_272 (lv_at hl 1 rfl) ?_
                refine va_iald (f := R 7) hx hb hK hP 7 0 rfl rfl hi_17 dX4_nameAll_274 ?_
                refine lv_aload_n hx hb dX4_nameAll_275 rfl (lv_at hl 2 rfl) ?_
                refine va_get (D := (dC, dI)) (ci := 4) (v := .ref (ad 7)) (C := RX4) (T := TX4) (N := 27) hx hb hts nX4_nameAll_X4 hown hK hP 0 rfl rfl 7 (by decide) (hts _ mX4_nameAll_f28) (fun _ h9 => h9) rfl dX4_nameAll_276 ?_
                refine lv_iload hx hb dX4_nameAll_279 (lv_at hl 0 rfl) ?_
                refine va_iald (f := R 7) hx hb hK hP 7 0 rfl rfl hi_18 dX4_nameAll_281 ?_
                refine lv_icmp_ge (tgt := 289) hx hb dX4_nameAll_282 (by decide) (fun hc => ?_) (fun hc => ?_)
                · have hq := hq.1 hc
                  refine lv_iinc (v := x7 + (1 : Int32)) (lv' := [(7, .int (x7 + (1 : Int32))), (9, .int x9_16), (8, .int x8_15), (0, .ref h), (1, .int p1), (2, .int x2), (3, .int x3), (5, .int x5), (6, .int x6)]) hx hb dX4_nameAll_289 hl (k := 8) rfl rfl (by decide) rfl (fun ls hl => ?_)
                  refine lv_goto (tgt := 186) hx hb dX4_nameAll_292 (by decide) ?_
                  exact hq _ _ ls hP hD hS (lv_sub hl [3, 4, 5, 6, 7, 8, 0] rfl)
                · have hq := hq.2 hc
                  refine lv_iload hx hb dX4_nameAll_285 (lv_at hl 8 rfl) ?_
                  refine lv_istore (lv' := [(6, .int x7), (9, .int x9_16), (8, .int x8_15), (0, .ref h), (1, .int p1), (2, .int x2), (3, .int x3), (5, .int x5), (7, .int x7)]) hx hb dX4_nameAll_287 hl (by decide) rfl (fun ls hl => ?_)
                  refine lv_iinc (v := x7 + (1 : Int32)) (lv' := [(7, .int (x7 + (1 : Int32))), (6, .int x7), (9, .int x9_16), (8, .int x8_15), (0, .ref h), (1, .int p1), (2, .int x2), (3, .int x3), (5, .int x5)]) hx hb dX4_nameAll_289 hl (k := 8) rfl rfl (by decide) rfl (fun ls hl => ?_)
                  refine lv_goto (tgt := 186) hx hb dX4_nameAll_292 (by decide) ?_
                  exact hq _ _ ls hP hD hS (lv_sub hl [4, 5, 6, 7, 8, 1, 0] rfl)
        · have hq := hq.2 hc
          refine lv_goto (tgt := 289) hx hb dX4_nameAll_207 (by decide) ?_
          refine lv_iinc (v := x7 + (1 : Int32)) (lv' := [(7, .int (x7 + (1 : Int32))), (0, .ref h), (1, .int p1), (2, .int x2), (3, .int x3), (5, .int x5), (6, .int x6)]) hx hb dX4_nameAll_289 hl (k := 6) rfl rfl (by decide) rfl (fun ls hl => ?_)
          refine lv_goto (tgt := 186) hx hb dX4_nameAll_292 (by decide) ?_
          exact hq _ _ ls hP hD hS (lv_sub hl [1, 2, 3, 4, 5, 6, 0] rfl)
  have hl := lv_entry ([.ref h, .int p1]) (n := 10) (Nat.le_of_ble_eq_true rfl)
  rw [lg_entry_eq]
  generalize (lg_sl ([.ref h, .int p1]) ++ List.replicate (10 - (lg_sl ([.ref h, .int p1])).length) Slot.unset).toArray = ls at hl ⊢
  have hl : lv_has ls 10 [(0, .ref h), (1, .int p1)] := hl
  refine lv_iconst (v := (0 : Int32)) hx hb dX4_nameAll_0 (by decide) ?_
  refine lv_istore_n (lv' := [(2, .int (0 : Int32)), (0, .ref h), (1, .int p1)]) hx hb dX4_nameAll_1 rfl hl (by decide) rfl (fun ls hl => ?_)
  refine lv_iconst (v := (0 : Int32)) hx hb dX4_nameAll_2 (by decide) ?_
  refine lv_istore_n (lv' := [(3, .int (0 : Int32)), (2, .int (0 : Int32)), (0, .ref h), (1, .int p1)]) hx hb dX4_nameAll_3 rfl hl (by decide) rfl (fun ls hl => ?_)
  exact hq _ _ _ _ _ _ hZ _ _ ls hP hD hS (lv_sub hl [2, 3, 1, 0] rfl)
def qX4_name (post : Int32 → (Nat → Int32) → (Nat → Nat → Int32) → Prop) (p1 : Int32) (p2 : Int32) (I : Nat → Int32) (R : Nat → Nat → Int32) : Prop := ∃ Pc_1 : Int32 → Prop, qX4_isPicture Pc_1 p1 (va_up I 19 (0 : Int32)) R ∧ (∀ (rc_1 : Int32), Pc_1 rc_1 → (((rc_1 = 0) → (post (-1 : Int32) (va_up I 19 (0 : Int32)) R)) ∧ ((¬ rc_1 = 0) → (∃ Pc_2 : Int32 → (Nat → Int32) → (Nat → Nat → Int32) → Prop, qX4_isGood Pc_2 p1 (va_up I 19 (0 : Int32)) R ∧ (∀ (rc_2 : Int32) (Ic_2 : Nat → Int32) (Rc_2 : Nat → Nat → Int32), Pc_2 rc_2 Ic_2 Rc_2 → (((¬ rc_2 = 0) → (∃ Pc_3 : Int32 → (Nat → Int32) → (Nat → Nat → Int32) → Prop, qX4_nameAll Pc_3 p1 Ic_2 Rc_2 ∧ (∀ (rc_3 : Int32) (Ic_3 : Nat → Int32) (Rc_3 : Nat → Nat → Int32), Pc_3 rc_3 Ic_3 Rc_3 → (∃ Pc_4 : Int32 → Prop, qX4_in Pc_4 p2 (0 : Int32) (rc_3 - (1 : Int32)) ∧ (∀ (rc_4 : Int32), Pc_4 rc_4 → (((rc_4 = 0) → (post (-1 : Int32) Ic_3 Rc_3)) ∧ ((¬ rc_4 = 0) → (vp_in p2 8 ∧ (post (Rc_3 21 p2.toNatClampNeg) Ic_3 Rc_3))))))))) ∧ ((rc_2 = 0) → (post (-1 : Int32) Ic_2 Rc_2))))))))
theorem mX4_name_f71 : Cond.fieldLink RX4 71 "YearBookModel" "thrown" "I" ∈ wsX4_name := by decide +kernel
theorem nX4_name_X4 : ∀ w ∈ u_ws RX4 TX4 27, w ∈ wsX4_name := by decide +kernel
theorem mX4_name_f56 : Cond.fieldLink RX4 56 "YearBookModel" "names" "[I" ∈ wsX4_name := by decide +kernel
set_option maxHeartbeats 4000000 in
set_option maxRecDepth 100000 in
theorem tX4_name (l : Launch) (dC : Nat → ClassId) (dI : Nat → Nat → Nat) (cI : ClassId) (h : Nat) (ad : Nat → Nat)  (sz : Nat) (post : Int32 → (Nat → Int32) → (Nat → Nat → Int32) → Prop) (p1 : Int32) (p2 : Int32) (I : Nat → Int32) (R : Nat → Nat → Int32) (hq : qX4_name post p1 p2 I R) : Met l yX4_name wsX4_name ({ frames := 3, cells := 0, slots := 0, locals := 74 } : Room) (va_Pc [.ref h, .int p1, .int p2] (wPre (dC, dI) vwCl [(cI, .int)] (wd4 cI h ad I R) sz)) (va_Qi (fun r (u : (Nat → Int32) × (Nat → Nat → Int32)) => post r u.1 u.2) (wAt (dC, dI) vwCl [(cI, .int)] (va_A (wd4 cI h ad I R) sz) (fun u : (Nat → Int32) × (Nat → Nat → Int32) => wd4 cI h ad u.1 u.2)) (va_A (wd4 cI h ad I R) sz)) 0 0 (va_A (wd4 cI h ad I R) sz) := by
  unfold qX4_name at hq
  refine Met.ofW (cc := cX4_name) (maxL := 4) (ret := (some .int)) (by decide) rfl ?_
  intro p e s m args below meth c s₁ B hml hv
  obtain ⟨rfl, hsz, hP, hK, hD0⟩ := hv
  have hx := B.exec
  have hb := B.bytes
  have hr := B.returns
  have hts := atoms_spec (ws := wsX4_name) B.pre
  have hown : s.vm.findClass RX4 = some m.cls := findClass_of_methodNamed B.named
  have hlocks := B.notSynchronized
  subst hsz
  have hD := hD0.self (sz := s.heap.size)
  generalize hAe : va_A (wd4 cI h ad I R) s.heap.size = A at hD ⊢
  have hA : ∀ q : Nat, s.heap.size ≤ q → A q := fun q h => by rw [← hAe]; exact Or.inr h
  have hS : va_S A s.heap s.heap [] := va_S.rf
  have hl := lv_entry ([.ref h, .int p1, .int p2]) (n := 4) (Nat.le_of_ble_eq_true rfl)
  rw [lg_entry_eq]
  generalize (lg_sl ([.ref h, .int p1, .int p2]) ++ List.replicate (4 - (lg_sl ([.ref h, .int p1, .int p2])).length) Slot.unset).toArray = ls at hl ⊢
  have hl : lv_has ls 4 [(0, .ref h), (1, .int p1), (2, .int p2)] := hl
  refine lv_aload_n hx hb dX4_name_0 rfl (lv_at hl 0 rfl) ?_
  refine lv_iconst (v := (0 : Int32)) hx hb dX4_name_1 (by decide) ?_
  refine va_put (D := (dC, dI)) (ci := 4) (v := .int (0 : Int32)) (ty := .int) (C := RX4) (T := TX4) (N := 27) hx hb hts nX4_name_X4 tyX4 tyX4_ok nmX4 hown hK hP hD hS 0 rfl rfl 19 (by decide) (hts _ mX4_name_f71) (fun _ h9 => h9) rfl (by decide +kernel) rfl rfl (Nat.le_of_ble_eq_true rfl) dX4_name_2 (fun H locs hP hD hS => ?_)
  rw [wd4_I19] at hP hD
  refine lv_aload_n hx hb dX4_name_5 rfl (lv_at hl 0 rfl) ?_
  refine lv_iload_n hx hb dX4_name_6 rfl (lv_at hl 1 rfl) ?_
  obtain ⟨Pc_1, hc, hq⟩ := hq
  refine w_calli (wf := fun _ : Unit => wd4 cI h ad (va_up I 19 (0 : Int32)) R) (va_runV (As := [.int p1]) (rest := []) ⟨hx, hb, hml, hown, hts⟩ (tX4_isPicture l dC dI cI h ad _ Pc_1 p1 (va_up I 19 (0 : Int32)) R hc) (cwV 1 hts gX4_name_X4_isPicture rfl rfl rfl (by decide +kernel) ⟨Nat.le_of_ble_eq_true rfl, Nat.le_of_ble_eq_true rfl⟩) (wPreV hK hP hD (ci := 4) (q0 := 0) rfl rfl) rfl rfl hl.1 rfl (lv_room (Nat.le_of_ble_eq_true rfl)) dX4_name_7 ⟨Nat.le_of_ble_eq_true rfl, Nat.le_of_ble_eq_true rfl⟩) hD hS hA (fun rc_1 u H locs hp hP hD hS => ?_)
  have hq := hq rc_1 hp
  have hP : va_P (dC, dI) vwCl (wd4 cI h ad (va_up I 19 (0 : Int32)) R) H := hP
  have hD : va_D A (wd4 cI h ad (va_up I 19 (0 : Int32)) R) := hD
  refine lv_if_eq (tgt := 21) hx hb dX4_name_10 (by decide) (fun hc => ?_) (fun hc => ?_)
  · have hq := hq.1 hc
    refine lv_iconst (v := (-1 : Int32)) hx hb dX4_name_21 (by decide) ?_
    exact w_iret (post := fun r (u : (Nat → Int32) × (Nat → Nat → Int32)) => post r u.1 u.2) (wf := fun u : (Nat → Int32) × (Nat → Nat → Int32) => wd4 cI h ad u.1 u.2) (u := (va_up I 19 (0 : Int32), R)) hx hb hr hK hP hD hS hq dX4_name_22 hlocks
  · have hq := hq.2 hc
    refine lv_aload_n hx hb dX4_name_13 rfl (lv_at hl 0 rfl) ?_
    refine lv_iload_n hx hb dX4_name_14 rfl (lv_at hl 1 rfl) ?_
    obtain ⟨Pc_2, hc, hq⟩ := hq
    refine w_calli (wf := fun u : (Nat → Int32) × (Nat → Nat → Int32) => wd4 cI h ad u.1 u.2) (va_runV (As := [.int p1]) (rest := []) ⟨hx, hb, hml, hown, hts⟩ (tX4_isGood l dC dI cI h ad _ Pc_2 p1 (va_up I 19 (0 : Int32)) R hc) (cwV 1 hts gX4_name_X4_isGood rfl rfl rfl (by decide +kernel) ⟨Nat.le_of_ble_eq_true rfl, Nat.le_of_ble_eq_true rfl⟩) (wPreV hK hP hD (ci := 4) (q0 := 0) rfl rfl) rfl rfl hl.1 rfl (lv_room (Nat.le_of_ble_eq_true rfl)) dX4_name_15 ⟨Nat.le_of_ble_eq_true rfl, Nat.le_of_ble_eq_true rfl⟩) hD hS hA (fun rc_2 u H locs hp hP hD hS => ?_)
    obtain ⟨Ic_2, Rc_2⟩ := u
    have hq := hq rc_2 Ic_2 Rc_2 hp
    have hP : va_P (dC, dI) vwCl (wd4 cI h ad Ic_2 Rc_2) H := hP
    have hD : va_D A (wd4 cI h ad Ic_2 Rc_2) := hD
    refine lv_if_ne (tgt := 23) hx hb dX4_name_18 (by decide) (fun hc => ?_) (fun hc => ?_)
    · have hq := hq.1 hc
      refine lv_aload_n hx hb dX4_name_23 rfl (lv_at hl 0 rfl) ?_
      refine lv_iload_n hx hb dX4_name_24 rfl (lv_at hl 1 rfl) ?_
      obtain ⟨Pc_3, hc, hq⟩ := hq
      refine w_calli (wf := fun u : (Nat → Int32) × (Nat → Nat → Int32) => wd4 cI h ad u.1 u.2) (va_runV (As := [.int p1]) (rest := []) ⟨hx, hb, hml, hown, hts⟩ (tX4_nameAll l dC dI cI h ad _ Pc_3 p1 Ic_2 Rc_2 hc) (cwV 1 hts gX4_name_X4_nameAll rfl rfl rfl (by decide +kernel) ⟨Nat.le_of_ble_eq_true rfl, Nat.le_of_ble_eq_true rfl⟩) (wPreV hK hP hD (ci := 4) (q0 := 0) rfl rfl) rfl rfl hl.1 rfl (lv_room (Nat.le_of_ble_eq_true rfl)) dX4_name_25 ⟨Nat.le_of_ble_eq_true rfl, Nat.le_of_ble_eq_true rfl⟩) hD hS hA (fun rc_3 u H locs hp hP hD hS => ?_)
      obtain ⟨Ic_3, Rc_3⟩ := u
      have hq := hq rc_3 Ic_3 Rc_3 hp
      have hP : va_P (dC, dI) vwCl (wd4 cI h ad Ic_3 Rc_3) H := hP
      have hD : va_D A (wd4 cI h ad Ic_3 Rc_3) := hD
      refine lv_istore_n (lv' := [(3, .int rc_3), (0, .ref h), (1, .int p1), (2, .int p2)]) hx hb dX4_name_28 rfl hl (by decide) rfl (fun ls hl => ?_)
      refine lv_iload_n hx hb dX4_name_29 rfl (lv_at hl 3 rfl) ?_
      refine lv_iconst (v := (0 : Int32)) hx hb dX4_name_30 (by decide) ?_
      refine lv_iload_n hx hb dX4_name_31 rfl (lv_at hl 0 rfl) ?_
      refine lv_iconst (v := (1 : Int32)) hx hb dX4_name_32 (by decide) ?_
      refine lv_isub hx hb dX4_name_33 ?_
      obtain ⟨Pc_4, hc, hq⟩ := hq
      refine vp_callSi (W.runS (As := [.int p2, .int (0 : Int32), .int (rc_3 - (1 : Int32))]) (rest := []) ⟨hx, hb, hml, hown, hts⟩ (tX4_in l Pc_4 p2 (0 : Int32) (rc_3 - (1 : Int32)) hc) (va_cwS 3 hts gX4_name_X4_in rfl rfl rfl (by decide +kernel) ⟨Nat.le_of_ble_eq_true rfl, Nat.le_of_ble_eq_true rfl⟩) preEq rfl rfl hl.1 rfl (lv_room (Nat.le_of_ble_eq_true rfl)) dX4_name_34 ⟨Nat.le_of_ble_eq_true rfl, Nat.le_of_ble_eq_true rfl⟩) (fun rc_4 hp => ?_)
      have hq := hq rc_4 hp
      refine lv_if_eq (tgt := 49) hx hb dX4_name_37 (by decide) (fun hc => ?_) (fun hc => ?_)
      · have hq := hq.1 hc
        refine lv_iconst (v := (-1 : Int32)) hx hb dX4_name_49 (by decide) ?_
        exact w_iret (post := fun r (u : (Nat → Int32) × (Nat → Nat → Int32)) => post r u.1 u.2) (wf := fun u : (Nat → Int32) × (Nat → Nat → Int32) => wd4 cI h ad u.1 u.2) (u := (Ic_3, Rc_3)) hx hb hr hK hP hD hS hq dX4_name_50 hlocks
      · have hq := hq.2 hc
        refine lv_aload_n hx hb dX4_name_40 rfl (lv_at hl 1 rfl) ?_
        refine va_get (D := (dC, dI)) (ci := 4) (v := .ref (ad 21)) (C := RX4) (T := TX4) (N := 27) hx hb hts nX4_name_X4 hown hK hP 0 rfl rfl 21 (by decide) (hts _ mX4_name_f56) (fun _ h9 => h9) rfl dX4_name_41 ?_
        refine lv_iload_n hx hb dX4_name_44 rfl (lv_at hl 3 rfl) ?_
        obtain ⟨hi_5, hq⟩ := hq
        refine va_iald (f := Rc_3 21) hx hb hK hP 13 0 rfl rfl hi_5 dX4_name_45 ?_
        refine lv_goto (tgt := 50) hx hb dX4_name_46 (by decide) ?_
        exact w_iret (post := fun r (u : (Nat → Int32) × (Nat → Nat → Int32)) => post r u.1 u.2) (wf := fun u : (Nat → Int32) × (Nat → Nat → Int32) => wd4 cI h ad u.1 u.2) (u := (Ic_3, Rc_3)) hx hb hr hK hP hD hS hq dX4_name_50 hlocks
    · have hq := hq.2 hc
      refine lv_iconst (v := (-1 : Int32)) hx hb dX4_name_21 (by decide) ?_
      exact w_iret (post := fun r (u : (Nat → Int32) × (Nat → Nat → Int32)) => post r u.1 u.2) (wf := fun u : (Nat → Int32) × (Nat → Nat → Int32) => wd4 cI h ad u.1 u.2) (u := (Ic_2, Rc_2)) hx hb hr hK hP hD hS hq dX4_name_22 hlocks
