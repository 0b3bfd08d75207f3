def zX2_look (post : (Nat → Int32) → (Nat → Nat → Int32) → Prop) (cn : Nat → Int32) (X9 : Int32 → Int32 → (Nat → Int32) → (Nat → Nat → Int32) → Prop) (X93 : Int32 → (Nat → Int32) → (Nat → Nat → Int32) → Prop) : Prop :=
  (∀ (x2 : Int32) (x3 : Int32) (I : Nat → Int32) (R : Nat → Nat → Int32), ((((I 3) ≤ x3) → (∃ Pc_1 : (Nat → Int32) → (Nat → Nat → Int32) → Prop, qX2_frame Pc_1  I R ∧ (∀ (Ic_1 : Nat → Int32) (Rc_1 : Nat → Nat → Int32), Pc_1 Ic_1 Rc_1 → (∃ Pc_2 : Int32 → Prop, qX2_anotherTouchesCut Pc_2  Ic_1 Rc_1 ∧ (∀ (rc_2 : Int32), Pc_2 rc_2 → (((rc_2 = 0) → (X93 x2 Ic_1 Rc_1)) ∧ ((¬ rc_2 = 0) → (X93 (0 : Int32) Ic_1 Rc_1)))))))) ∧ ((¬ (I 3) ≤ x3) → (vp_in x3 8 ∧ (∀ x4_4 : Int32, x4_4 = R 4 x3.toNatClampNeg → (((x4_4 < 0) → (X9 x2 (x3 + (1 : Int32)) I R)) ∧ ((¬ x4_4 < 0) → ((((16 : Int32) ≤ x4_4) → (X9 x2 (x3 + (1 : Int32)) I R)) ∧ ((¬ (16 : Int32) ≤ x4_4) → (vp_in x4_4 16 ∧ ((((((cn x4_4.toNatClampNeg) >>> ((I 0) &&& 31)) &&& (1 : Int32)) = 0) → (X9 x2 (x3 + (1 : Int32)) I R)) ∧ ((¬ (((cn x4_4.toNatClampNeg) >>> ((I 0) &&& 31)) &&& (1 : Int32)) = 0) → (∀ x2_6 : Int32, x2_6 = x2 ||| ((1 : Int32) <<< (x4_4 &&& 31)) → (X9 x2_6 (x3 + (1 : Int32)) (va_up I 8 ((I 8) ||| ((1 : Int32) <<< (x3 &&& 31)))) R))))))))))))) → X9 x2 x3 I R) ∧
  (∀ (k0 : Int32) (I : Nat → Int32) (R : Nat → Nat → Int32), (post (va_up I 9 k0) R) → X93 k0 I R)
def qX2_look_9 (post : (Nat → Int32) → (Nat → Nat → Int32) → Prop) (cn : Nat → Int32) (x2 : Int32) (x3 : Int32) (I : Nat → Int32) (R : Nat → Nat → Int32) : Prop := ∀ (X9 : Int32 → Int32 → (Nat → Int32) → (Nat → Nat → Int32) → Prop) (X93 : Int32 → (Nat → Int32) → (Nat → Nat → Int32) → Prop), zX2_look post cn X9 X93 → X9 x2 x3 I R
def qX2_look_93 (post : (Nat → Int32) → (Nat → Nat → Int32) → Prop) (cn : Nat → Int32) (k0 : Int32) (I : Nat → Int32) (R : Nat → Nat → Int32) : Prop := ∀ (X9 : Int32 → Int32 → (Nat → Int32) → (Nat → Nat → Int32) → Prop) (X93 : Int32 → (Nat → Int32) → (Nat → Nat → Int32) → Prop), zX2_look post cn X9 X93 → X93 k0 I R
theorem kX2_look_9 {post : (Nat → Int32) → (Nat → Nat → Int32) → Prop} {cn : Nat → Int32} {x2 : Int32} {x3 : Int32} {I : Nat → Int32} {R : Nat → Nat → Int32} (h : (((I 3) ≤ x3) → (∃ Pc_1 : (Nat → Int32) → (Nat → Nat → Int32) → Prop, qX2_frame Pc_1  I R ∧ (∀ (Ic_1 : Nat → Int32) (Rc_1 : Nat → Nat → Int32), Pc_1 Ic_1 Rc_1 → (∃ Pc_2 : Int32 → Prop, qX2_anotherTouchesCut Pc_2  Ic_1 Rc_1 ∧ (∀ (rc_2 : Int32), Pc_2 rc_2 → (((rc_2 = 0) → (qX2_look_93 post cn x2 Ic_1 Rc_1)) ∧ ((¬ rc_2 = 0) → (qX2_look_93 post cn (0 : Int32) Ic_1 Rc_1)))))))) ∧ ((¬ (I 3) ≤ x3) → (vp_in x3 8 ∧ (∀ x4_4 : Int32, x4_4 = R 4 x3.toNatClampNeg → (((x4_4 < 0) → (qX2_look_9 post cn x2 (x3 + (1 : Int32)) I R)) ∧ ((¬ x4_4 < 0) → ((((16 : Int32) ≤ x4_4) → (qX2_look_9 post cn x2 (x3 + (1 : Int32)) I R)) ∧ ((¬ (16 : Int32) ≤ x4_4) → (vp_in x4_4 16 ∧ ((((((cn x4_4.toNatClampNeg) >>> ((I 0) &&& 31)) &&& (1 : Int32)) = 0) → (qX2_look_9 post cn x2 (x3 + (1 : Int32)) I R)) ∧ ((¬ (((cn x4_4.toNatClampNeg) >>> ((I 0) &&& 31)) &&& (1 : Int32)) = 0) → (∀ x2_6 : Int32, x2_6 = x2 ||| ((1 : Int32) <<< (x4_4 &&& 31)) → (qX2_look_9 post cn x2_6 (x3 + (1 : Int32)) (va_up I 8 ((I 8) ||| ((1 : Int32) <<< (x3 &&& 31)))) R))))))))))))) : qX2_look_9 post cn x2 x3 I R := by
  intro Z9 Z93 hcl
  refine hcl.1 x2 x3 I R ?_
  refine ⟨fun c => ?_, fun c => ?_⟩
  · have h := h.1 c
    obtain ⟨P, h1, h2⟩ := h
    refine ⟨P, h1, fun b0 b1 hp => ?_⟩
    have h := h2 b0 b1 hp
    obtain ⟨P, h1, h2⟩ := h
    refine ⟨P, h1, fun b0 hp => ?_⟩
    have h := h2 b0 hp
    refine ⟨fun c => ?_, fun c => ?_⟩
    · have h := h.1 c
      exact h _ _ hcl
    · have h := h.2 c
      exact h _ _ hcl
  · have h := h.2 c
    refine ⟨h.1, ?_⟩
    have h := h.2
    intro x e
    have h := h x e
    refine ⟨fun c => ?_, fun c => ?_⟩
    · have h := h.1 c
      exact h _ _ hcl
    · have h := h.2 c
      refine ⟨fun c => ?_, fun c => ?_⟩
      · have h := h.1 c
        exact h _ _ hcl
      · have h := h.2 c
        refine ⟨h.1, ?_⟩
        have h := h.2
        refine ⟨fun c => ?_, fun c => ?_⟩
        · have h := h.1 c
          exact h _ _ hcl
        · have h := h.2 c
          intro x e
          have h := h x e
          exact h _ _ hcl
theorem kX2_look_93 {post : (Nat → Int32) → (Nat → Nat → Int32) → Prop} {cn : Nat → Int32} {k0 : Int32} {I : Nat → Int32} {R : Nat → Nat → Int32} (h : post (va_up I 9 k0) R) : qX2_look_93 post cn k0 I R := by
  intro Z9 Z93 hcl
  refine hcl.2 k0 I R ?_
  exact h
def qX2_look (post : (Nat → Int32) → (Nat → Nat → Int32) → Prop) (cn : Nat → Int32) (I : Nat → Int32) (R : Nat → Nat → Int32) : Prop := qX2_look_9 post cn (0 : Int32) (0 : Int32) (va_up I 8 (0 : Int32)) R
theorem mX2_look_f40 : Cond.fieldLink RX2 40 "YearBook$Picture" "allowed" "I" ∈ wsX2_look := by decide +kernel
theorem nX2_look_X2 : ∀ w ∈ u_ws RX2 TX2 11, w ∈ wsX2_look := by decide +kernel
theorem mX2_look_f37 : Cond.fieldLink RX2 37 "YearBook$Picture" "faces" "I" ∈ wsX2_look := by decide +kernel
theorem mX2_look_f9 : Cond.fieldLink RX2 9 "YearBook$Picture" "who" "[I" ∈ wsX2_look := by decide +kernel
theorem mX2_look_f27 : Cond.fieldLink RX2 27 "YearBook$Picture" "kind" "I" ∈ wsX2_look := by decide +kernel
theorem mX2_look_f50 : Cond.fieldLink RX2 50 "YearBook$Picture" "seen" "I" ∈ wsX2_look := by decide +kernel
set_option maxHeartbeats 4000000 in
set_option maxRecDepth 100000 in
theorem tX2_look (l : Launch) (dC : Nat → ClassId) (dI : Nat → Nat → Nat) (cI : ClassId) (h : Nat) (ad : Nat → Nat) (ac : Nat) (sz : Nat) (post : (Nat → Int32) → (Nat → Nat → Int32) → Prop) (cn : Nat → Int32) (I : Nat → Int32) (R : Nat → Nat → Int32) (hq : qX2_look post cn I R) : Met l yX2_look wsX2_look ({ frames := 2, cells := 0, slots := 0, locals := 51 } : Room) (va_Pc [.ref h, .ref ac] (wPre (dC, dI) vwCl [(cI, .int)] ((wd2 cI h ad I R) ++ [(ac, .inl (cI, 16, .inl cn))]) sz)) (va_Qv (fun (u : (Nat → Int32) × (Nat → Nat → Int32)) => post u.1 u.2) (wAt (dC, dI) vwCl [(cI, .int)] (va_A ((wd2 cI h ad I R) ++ [(ac, .inl (cI, 16, .inl cn))]) sz) (fun u : (Nat → Int32) × (Nat → Nat → Int32) => (wd2 cI h ad u.1 u.2) ++ [(ac, .inl (cI, 16, .inl cn))])) (va_A ((wd2 cI h ad I R) ++ [(ac, .inl (cI, 16, .inl cn))]) sz)) 0 0 (va_A ((wd2 cI h ad I R) ++ [(ac, .inl (cI, 16, .inl cn))]) sz) := by
  unfold qX2_look at hq
  refine Met.ofW (cc := cX2_look) (maxL := 5) (ret := none) (by decide) rfl ?_
  intro p e s m args below meth c s₁ B hml hv
  obtain ⟨rfl, hsz, hP, hK, hD0⟩ := hv
  have hx := B.exec
  have hb := B.bytes
  have hr := B.returns
  have hts := atoms_spec (ws := wsX2_look) B.pre
  have hown : s.vm.findClass RX2 = some m.cls := findClass_of_methodNamed B.named
  have hlocks := B.notSynchronized
  subst hsz
  have hD := hD0.self (sz := s.heap.size)
  generalize hAe : va_A ((wd2 cI h ad I R) ++ [(ac, .inl (cI, 16, .inl cn))]) s.heap.size = A at hD ⊢
  have hA : ∀ q : Nat, s.heap.size ≤ q → A q := fun q h => by rw [← hAe]; exact Or.inr h
  have hS : va_S A s.heap s.heap [] := va_S.rf
  have hZ : zX2_look post cn
      (fun (x2 : Int32) (x3 : Int32) (I : Nat → Int32) (R : Nat → Nat → Int32) => ∀ (H : Heap) (locs : List Loc) (ls : Array Slot), va_P (dC, dI) vwCl ((wd2 cI h ad I R) ++ [(ac, .inl (cI, 16, .inl cn))]) H → va_D A ((wd2 cI h ad I R) ++ [(ac, .inl (cI, 16, .inl cn))]) → va_S A s.heap H locs → lv_has ls 5 [(0, .ref h), (1, .ref ac), (2, .int x2), (3, .int x3)] → W p l e (headSpec wsX2_look ({ frames := 2, cells := 0, slots := 0, locals := 51 } : Room)).room s m ([.ref h, .ref ac] : List Value).toArray below meth c H locs 0 0 (MQ below (va_Qv (fun (u : (Nat → Int32) × (Nat → Nat → Int32)) => post u.1 u.2) (wAt (dC, dI) vwCl [(cI, .int)] A (fun u : (Nat → Int32) × (Nat → Nat → Int32) => (wd2 cI h ad u.1 u.2) ++ [(ac, .inl (cI, 16, .inl cn))])) A) ([.ref h, .ref ac] : List Value).toArray s 0 0 A) (F0 m 9 ls []))
      (fun (k0 : Int32) (I : Nat → Int32) (R : Nat → Nat → Int32) => ∀ (H : Heap) (locs : List Loc) (ls : Array Slot), va_P (dC, dI) vwCl ((wd2 cI h ad I R) ++ [(ac, .inl (cI, 16, .inl cn))]) H → va_D A ((wd2 cI h ad I R) ++ [(ac, .inl (cI, 16, .inl cn))]) → va_S A s.heap H locs → lv_has ls 5 [] → W p l e (headSpec wsX2_look ({ frames := 2, cells := 0, slots := 0, locals := 51 } : Room)).room s m ([.ref h, .ref ac] : List Value).toArray below meth c H locs 0 0 (MQ below (va_Qv (fun (u : (Nat → Int32) × (Nat → Nat → Int32)) => post u.1 u.2) (wAt (dC, dI) vwCl [(cI, .int)] A (fun u : (Nat → Int32) × (Nat → Nat → Int32) => (wd2 cI h ad u.1 u.2) ++ [(ac, .inl (cI, 16, .inl cn))])) A) ([.ref h, .ref ac] : List Value).toArray s 0 0 A) (F0 m 93 ls [.int k0, .ref h])) := by
    refine ⟨?_, ?_⟩
    · intro x2 x3 I R hq H locs ls hP hD hS hl
      refine lv_iload_n hx hb dX2_look_9 rfl (lv_at hl 3 rfl) ?_
      refine lv_aload_n hx hb dX2_look_10 rfl (lv_at hl 0 rfl) ?_
      refine va_get (D := (dC, dI)) (ci := 2) (v := .int (I 3)) (C := RX2) (T := TX2) (N := 11) hx hb hts nX2_look_X2 hown hK hP 0 rfl rfl 3 (by decide) (hts _ mX2_look_f37) (fun _ h9 => h9) rfl dX2_look_11 ?_
      refine lv_icmp_ge (tgt := 76) hx hb dX2_look_14 (by decide) (fun hc => ?_) (fun hc => ?_)
      · have hq := hq.1 hc
        refine lv_aload_n hx hb dX2_look_76 rfl (lv_at hl 0 rfl) ?_
        obtain ⟨Pc_1, hc, hq⟩ := hq
        refine x_callv (w1 := []) (w2 := [(ac, .inl (cI, 16, .inl cn))]) (wf := fun u : (Nat → Int32) × (Nat → Nat → Int32) => wd2 cI h ad u.1 u.2) (va_runV (As := []) (rest := []) ⟨hx, hb, hml, hown, hts⟩ (tX2_frame l dC dI cI h ad _ Pc_1  I R hc) (cwV 0 hts gX2_look_X2_frame rfl rfl rfl (by decide +kernel) ⟨Nat.le_of_ble_eq_true rfl, Nat.le_of_ble_eq_true rfl⟩) (wPreV hK (vP_l hP) (vD_l hD) (ci := 2) (q0 := 0) rfl rfl) rfl rfl hl.1 rfl (lv_room (Nat.le_of_ble_eq_true rfl)) dX2_look_77 ⟨Nat.le_of_ble_eq_true rfl, Nat.le_of_ble_eq_true rfl⟩) hP hD hS hA (fun u H locs hp hP hD hS => ?_)
        obtain ⟨Ic_1, Rc_1⟩ := u
        have hq := hq Ic_1 Rc_1 hp
        have hP : va_P (dC, dI) vwCl ((wd2 cI h ad Ic_1 Rc_1) ++ [(ac, .inl (cI, 16, .inl cn))]) H := hP
        have hD : va_D A ((wd2 cI h ad Ic_1 Rc_1) ++ [(ac, .inl (cI, 16, .inl cn))]) := hD
        refine lv_aload_n hx hb dX2_look_80 rfl (lv_at hl 0 rfl) ?_
        refine lv_aload_n hx hb dX2_look_81 rfl (lv_at hl 0 rfl) ?_
        obtain ⟨Pc_2, hc, hq⟩ := hq
        refine x_calli (w1 := []) (w2 := [(ac, .inl (cI, 16, .inl cn))]) (wf := fun _ : Unit => wd2 cI h ad Ic_1 Rc_1) (va_runV (As := []) (rest := [.ref h]) ⟨hx, hb, hml, hown, hts⟩ (tX2_anotherTouchesCut l dC dI cI h ad _ Pc_2  Ic_1 Rc_1 hc) (cwV 0 hts gX2_look_X2_anotherTouchesCut rfl rfl rfl (by decide +kernel) ⟨Nat.le_of_ble_eq_true rfl, Nat.le_of_ble_eq_true rfl⟩) (wPreV hK (vP_l hP) (vD_l hD) (ci := 2) (q0 := 0) rfl rfl) rfl rfl hl.1 rfl (lv_room (Nat.le_of_ble_eq_true rfl)) dX2_look_82 ⟨Nat.le_of_ble_eq_true rfl, Nat.le_of_ble_eq_true rfl⟩) hP hD hS hA (fun rc_2 u H locs hp hP hD hS => ?_)
        have hq := hq rc_2 hp
        have hP : va_P (dC, dI) vwCl ((wd2 cI h ad Ic_1 Rc_1) ++ [(ac, .inl (cI, 16, .inl cn))]) H := hP
        have hD : va_D A ((wd2 cI h ad Ic_1 Rc_1) ++ [(ac, .inl (cI, 16, .inl cn))]) := hD
        refine lv_if_eq (tgt := 92) hx hb dX2_look_85 (by decide) (fun hc => ?_) (fun hc => ?_)
        · have hq := hq.1 hc
          refine lv_iload_n hx hb dX2_look_92 rfl (lv_at hl 2 rfl) ?_
          exact hq _ _ ls hP hD hS (lv_sub hl [] rfl)
        · have hq := hq.2 hc
          refine lv_iconst (v := (0 : Int32)) hx hb dX2_look_88 (by decide) ?_
          refine lv_goto (tgt := 93) hx hb dX2_look_89 (by decide) ?_
          exact hq _ _ ls hP hD hS (lv_sub hl [] rfl)
      · have hq := hq.2 hc
        refine lv_aload_n hx hb dX2_look_17 rfl (lv_at hl 0 rfl) ?_
        refine va_get (D := (dC, dI)) (ci := 2) (v := .ref (ad 4)) (C := RX2) (T := TX2) (N := 11) hx hb hts nX2_look_X2 hown hK hP 0 rfl rfl 4 (by decide) (hts _ mX2_look_f9) (fun _ h9 => h9) rfl dX2_look_18 ?_
        refine lv_iload_n hx hb dX2_look_21 rfl (lv_at hl 3 rfl) ?_
        obtain ⟨hi_3, hq⟩ := hq
        refine va_iald (f := R 4) hx hb hK hP 1 0 rfl rfl hi_3 dX2_look_22 ?_
        refine lv_topi (fun x4_4 ex4_4 => ?_)
        have hq := hq x4_4 ex4_4
        refine lv_istore (lv' := [(4, .int x4_4), (0, .ref h), (1, .ref ac), (2, .int x2), (3, .int x3)]) hx hb dX2_look_23 hl (by decide) rfl (fun ls hl => ?_)
        refine lv_iload hx hb dX2_look_25 (lv_at hl 0 rfl) ?_
        refine lv_if_lt (tgt := 70) hx hb dX2_look_27 (by decide) (fun hc => ?_) (fun hc => ?_)
        · have hq := hq.1 hc
          refine lv_iinc (v := x3 + (1 : Int32)) (lv' := [(3, .int (x3 + (1 : Int32))), (4, .int x4_4), (0, .ref h), (1, .ref ac), (2, .int x2)]) hx hb dX2_look_70 hl (k := 4) rfl rfl (by decide) rfl (fun ls hl => ?_)
          refine lv_goto (tgt := 9) hx hb dX2_look_73 (by decide) ?_
          exact hq _ _ ls hP hD hS (lv_sub hl [2, 3, 4, 0] rfl)
        · have hq := hq.2 hc
          refine lv_iload hx hb dX2_look_30 (lv_at hl 0 rfl) ?_
          refine lv_aload_n hx hb dX2_look_32 rfl (lv_at hl 2 rfl) ?_
          refine va_alen (v := (16 : Int32)) hx hb hK hP 6 0 rfl rfl rfl dX2_look_33 ?_
          refine lv_icmp_ge (tgt := 70) hx hb dX2_look_34 (by decide) (fun hc => ?_) (fun hc => ?_)
          · have hq := hq.1 hc
            refine lv_iinc (v := x3 + (1 : Int32)) (lv' := [(3, .int (x3 + (1 : Int32))), (4, .int x4_4), (0, .ref h), (1, .ref ac), (2, .int x2)]) hx hb dX2_look_70 hl (k := 4) rfl rfl (by decide) rfl (fun ls hl => ?_)
            refine lv_goto (tgt := 9) hx hb dX2_look_73 (by decide) ?_
            exact hq _ _ ls hP hD hS (lv_sub hl [2, 3, 4, 0] rfl)
          · have hq := hq.2 hc
            refine lv_aload_n hx hb dX2_look_37 rfl (lv_at hl 2 rfl) ?_
            refine lv_iload hx hb dX2_look_38 (lv_at hl 0 rfl) ?_
            obtain ⟨hi_5, hq⟩ := hq
            refine va_iald (f := cn) hx hb hK hP 6 0 rfl rfl hi_5 dX2_look_40 ?_
            refine lv_aload_n hx hb dX2_look_41 rfl (lv_at hl 1 rfl) ?_
            refine va_get (D := (dC, dI)) (ci := 2) (v := .int (I 0)) (C := RX2) (T := TX2) (N := 11) hx hb hts nX2_look_X2 hown hK hP 0 rfl rfl 0 (by decide) (hts _ mX2_look_f27) (fun _ h9 => h9) rfl dX2_look_42 ?_
            refine lv_ishr hx hb dX2_look_45 ?_
            refine lv_iconst (v := (1 : Int32)) hx hb dX2_look_46 (by decide) ?_
            refine lv_iand hx hb dX2_look_47 ?_
            refine lv_if_eq (tgt := 70) hx hb dX2_look_48 (by decide) (fun hc => ?_) (fun hc => ?_)
            · have hq := hq.1 hc
              refine lv_iinc (v := x3 + (1 : Int32)) (lv' := [(3, .int (x3 + (1 : Int32))), (4, .int x4_4), (0, .ref h), (1, .ref ac), (2, .int x2)]) hx hb dX2_look_70 hl (k := 4) rfl rfl (by decide) rfl (fun ls hl => ?_)
              refine lv_goto (tgt := 9) hx hb dX2_look_73 (by decide) ?_
              exact hq _ _ ls hP hD hS (lv_sub hl [2, 3, 4, 0] rfl)
            · have hq := hq.2 hc
              refine lv_aload_n hx hb dX2_look_51 rfl (lv_at hl 1 rfl) ?_
              refine lv_dup hx hb dX2_look_52 rfl ?_
              refine va_get (D := (dC, dI)) (ci := 2) (v := .int (I 8)) (C := RX2) (T := TX2) (N := 11) hx hb hts nX2_look_X2 hown hK hP 0 rfl rfl 8 (by decide) (hts _ mX2_look_f40) (fun _ h9 => h9) rfl dX2_look_53 ?_
              refine lv_iconst (v := (1 : Int32)) hx hb dX2_look_56 (by decide) ?_
              refine lv_iload_n hx hb dX2_look_57 rfl (lv_at hl 4 rfl) ?_
              refine lv_ishl hx hb dX2_look_58 ?_
              refine lv_ior hx hb dX2_look_59 ?_
              refine va_put (D := (dC, dI)) (ci := 2) (v := .int ((I 8) ||| ((1 : Int32) <<< (x3 &&& 31)))) (ty := .int) (C := RX2) (T := TX2) (N := 11) hx hb hts nX2_look_X2 tyX2 tyX2_ok nmX2 hown hK hP hD hS 0 rfl rfl 8 (by decide) (hts _ mX2_look_f40) (fun _ h9 => h9) rfl (by decide +kernel) rfl rfl (Nat.le_of_ble_eq_true rfl) dX2_look_60 (fun H locs hP hD hS => ?_)
              rw [wd2x_I8] at hP hD
              refine lv_iload_n hx hb dX2_look_63 rfl (lv_at hl 3 rfl) ?_
              refine lv_iconst (v := (1 : Int32)) hx hb dX2_look_64 (by decide) ?_
              refine lv_iload hx hb dX2_look_65 (lv_at hl 0 rfl) ?_
              refine lv_ishl hx hb dX2_look_67 ?_
              refine lv_ior hx hb dX2_look_68 ?_
              refine lv_topi (fun x2_6 ex2_6 => ?_)
              have hq := hq x2_6 ex2_6
              refine lv_istore_n (lv' := [(2, .int x2_6), (4, .int x4_4), (0, .ref h), (1, .ref ac), (3, .int x3)]) hx hb dX2_look_69 rfl hl (by decide) rfl (fun ls hl => ?_)
              refine lv_iinc (v := x3 + (1 : Int32)) (lv' := [(3, .int (x3 + (1 : Int32))), (2, .int x2_6), (4, .int x4_4), (0, .ref h), (1, .ref ac)]) hx hb dX2_look_70 hl (k := 4) rfl rfl (by decide) rfl (fun ls hl => ?_)
              refine lv_goto (tgt := 9) hx hb dX2_look_73 (by decide) ?_
              exact hq _ _ ls hP hD hS (lv_sub hl [3, 4, 1, 0] rfl)
    · intro k0 I R hq H locs ls hP hD hS hl
      refine va_put (D := (dC, dI)) (ci := 2) (v := .int k0) (ty := .int) (C := RX2) (T := TX2) (N := 11) hx hb hts nX2_look_X2 tyX2 tyX2_ok nmX2 hown hK hP hD hS 0 rfl rfl 9 (by decide) (hts _ mX2_look_f50) (fun _ h9 => h9) rfl (by decide +kernel) rfl rfl (Nat.le_of_ble_eq_true rfl) dX2_look_93 (fun H locs hP hD hS => ?_)
      rw [wd2x_I9] at hP hD
      exact w_vret (post := fun (u : (Nat → Int32) × (Nat → Nat → Int32)) => post u.1 u.2) (wf := fun u : (Nat → Int32) × (Nat → Nat → Int32) => (wd2 cI h ad u.1 u.2) ++ [(ac, .inl (cI, 16, .inl cn))]) (u := (va_up I 9 k0, R)) hx hb hr hK hP hD hS hq dX2_look_96 hlocks
  have hl := lv_entry ([.ref h, .ref ac]) (n := 5) (Nat.le_of_ble_eq_true rfl)
  rw [lg_entry_eq]
  generalize (lg_sl ([.ref h, .ref ac]) ++ List.replicate (5 - (lg_sl ([.ref h, .ref ac])).length) Slot.unset).toArray = ls at hl ⊢
  have hl : lv_has ls 5 [(0, .ref h), (1, .ref ac)] := hl
  refine lv_aload_n hx hb dX2_look_0 rfl (lv_at hl 0 rfl) ?_
  refine lv_iconst (v := (0 : Int32)) hx hb dX2_look_1 (by decide) ?_
  refine va_put (D := (dC, dI)) (ci := 2) (v := .int (0 : Int32)) (ty := .int) (C := RX2) (T := TX2) (N := 11) hx hb hts nX2_look_X2 tyX2 tyX2_ok nmX2 hown hK hP hD hS 0 rfl rfl 8 (by decide) (hts _ mX2_look_f40) (fun _ h9 => h9) rfl (by decide +kernel) rfl rfl (Nat.le_of_ble_eq_true rfl) dX2_look_2 (fun H locs hP hD hS => ?_)
  rw [wd2x_I8] at hP hD
  refine lv_iconst (v := (0 : Int32)) hx hb dX2_look_5 (by decide) ?_
  refine lv_istore_n (lv' := [(2, .int (0 : Int32)), (0, .ref h), (1, .ref ac)]) hx hb dX2_look_6 rfl hl (by decide) rfl (fun ls hl => ?_)
  refine lv_iconst (v := (0 : Int32)) hx hb dX2_look_7 (by decide) ?_
  refine lv_istore_n (lv' := [(3, .int (0 : Int32)), (2, .int (0 : Int32)), (0, .ref h), (1, .ref ac)]) hx hb dX2_look_8 rfl hl (by decide) rfl (fun ls hl => ?_)
  exact hq _ _ hZ _ _ ls hP hD hS (lv_sub hl [2, 3, 1, 0] rfl)
def zX2_topRow (post : Int32 → Prop) (p1 : Int32) (p2 : Int32) (I : Nat → Int32) (R : Nat → Nat → Int32) (X7 : Int32 → Int32 → Prop) (X49 : Int32 → Int32 → Int32 → Prop) : Prop :=
  (∀ (x3 : Int32) (x4 : Int32), ((((I 3) ≤ x4) → (X49 x3 (0 : Int32) (0 : Int32))) ∧ ((¬ (I 3) ≤ x4) → (((((p1 >>> (x4 &&& 31)) &&& (1 : Int32)) = 0) → (X7 x3 (x4 + (1 : Int32)))) ∧ ((¬ ((p1 >>> (x4 &&& 31)) &&& (1 : Int32)) = 0) → (vp_in x4 8 ∧ (∀ v_2 : Int32, v_2 = (if R 6 x4.toNatClampNeg < x3 then R 6 x4.toNatClampNeg else x3) → (X7 v_2 (x4 + (1 : Int32))))))))) → X7 x3 x4) ∧
  (∀ (x3 : Int32) (x4 : Int32) (x5 : Int32), ((((I 3) ≤ x5) → (post x4)) ∧ ((¬ (I 3) ≤ x5) → (((((p1 >>> (x5 &&& 31)) &&& (1 : Int32)) = 0) → (X49 x3 x4 (x5 + (1 : Int32)))) ∧ ((¬ ((p1 >>> (x5 &&& 31)) &&& (1 : Int32)) = 0) → (vp_in x5 8 ∧ (((p2 < ((R 6 x5.toNatClampNeg) - x3)) → (X49 x3 x4 (x5 + (1 : Int32)))) ∧ ((¬ p2 < ((R 6 x5.toNatClampNeg) - x3)) → (∀ x4_4 : Int32, x4_4 = x4 ||| ((1 : Int32) <<< (x5 &&& 31)) → (X49 x3 x4_4 (x5 + (1 : Int32))))))))))) → X49 x3 x4 x5)
def qX2_topRow_7 (post : Int32 → Prop) (p1 : Int32) (p2 : Int32) (I : Nat → Int32) (R : Nat → Nat → Int32) (x3 : Int32) (x4 : Int32) : Prop := ∀ (X7 : Int32 → Int32 → Prop) (X49 : Int32 → Int32 → Int32 → Prop), zX2_topRow post p1 p2 I R X7 X49 → X7 x3 x4
def qX2_topRow_49 (post : Int32 → Prop) (p1 : Int32) (p2 : Int32) (I : Nat → Int32) (R : Nat → Nat → Int32) (x3 : Int32) (x4 : Int32) (x5 : Int32) : Prop := ∀ (X7 : Int32 → Int32 → Prop) (X49 : Int32 → Int32 → Int32 → Prop), zX2_topRow post p1 p2 I R X7 X49 → X49 x3 x4 x5
theorem kX2_topRow_7 {post : Int32 → Prop} {p1 : Int32} {p2 : Int32} {I : Nat → Int32} {R : Nat → Nat → Int32} {x3 : Int32} {x4 : Int32} (h : (((I 3) ≤ x4) → (qX2_topRow_49 post p1 p2 I R x3 (0 : Int32) (0 : Int32))) ∧ ((¬ (I 3) ≤ x4) → (((((p1 >>> (x4 &&& 31)) &&& (1 : Int32)) = 0) → (qX2_topRow_7 post p1 p2 I R x3 (x4 + (1 : Int32)))) ∧ ((¬ ((p1 >>> (x4 &&& 31)) &&& (1 : Int32)) = 0) → (vp_in x4 8 ∧ (∀ v_2 : Int32, v_2 = (if R 6 x4.toNatClampNeg < x3 then R 6 x4.toNatClampNeg else x3) → (qX2_topRow_7 post p1 p2 I R v_2 (x4 + (1 : Int32))))))))) : qX2_topRow_7 post p1 p2 I R x3 x4 := by
  intro Z7 Z49 hcl
  refine hcl.1 x3 x4 ?_
  refine ⟨fun c => ?_, fun c => ?_⟩
  · have h := h.1 c
    exact h _ _ hcl
  · have h := h.2 c
    refine ⟨fun c => ?_, fun c => ?_⟩
    · have h := h.1 c
      exact h _ _ hcl
    · have h := h.2 c
      refine ⟨h.1, ?_⟩
      have h := h.2
      intro x e
      have h := h x e
      exact h _ _ hcl
theorem kX2_topRow_49 {post : Int32 → Prop} {p1 : Int32} {p2 : Int32} {I : Nat → Int32} {R : Nat → Nat → Int32} {x3 : Int32} {x4 : Int32} {x5 : Int32} (h : (((I 3) ≤ x5) → (post x4)) ∧ ((¬ (I 3) ≤ x5) → (((((p1 >>> (x5 &&& 31)) &&& (1 : Int32)) = 0) → (qX2_topRow_49 post p1 p2 I R x3 x4 (x5 + (1 : Int32)))) ∧ ((¬ ((p1 >>> (x5 &&& 31)) &&& (1 : Int32)) = 0) → (vp_in x5 8 ∧ (((p2 < ((R 6 x5.toNatClampNeg) - x3)) → (qX2_topRow_49 post p1 p2 I R x3 x4 (x5 + (1 : Int32)))) ∧ ((¬ p2 < ((R 6 x5.toNatClampNeg) - x3)) → (∀ x4_4 : Int32, x4_4 = x4 ||| ((1 : Int32) <<< (x5 &&& 31)) → (qX2_topRow_49 post p1 p2 I R x3 x4_4 (x5 + (1 : Int32))))))))))) : qX2_topRow_49 post p1 p2 I R x3 x4 x5 := by
  intro Z7 Z49 hcl
  refine hcl.2 x3 x4 x5 ?_
  refine ⟨fun c => ?_, fun c => ?_⟩
  · have h := h.1 c
    exact h
  · have h := h.2 c
    refine ⟨fun c => ?_, fun c => ?_⟩
    · have h := h.1 c
      exact h _ _ hcl
    · have h := h.2 c
      refine ⟨h.1, ?_⟩
      have h := h.2
      refine ⟨fun c => ?_, fun c => ?_⟩
      · have h := h.1 c
        exact h _ _ hcl
      · have h := h.2 c
        intro x e
        have h := h x e
        exact h _ _ hcl
def qX2_topRow (post : Int32 → Prop) (p1 : Int32) (p2 : Int32) (I : Nat → Int32) (R : Nat → Nat → Int32) : Prop := qX2_topRow_7 post p1 p2 I R (1000 : Int32) (0 : Int32)
theorem mX2_topRow_f37 : Cond.fieldLink RX2 37 "YearBook$Picture" "faces" "I" ∈ wsX2_topRow := by decide +kernel
theorem nX2_topRow_X2 : ∀ w ∈ u_ws RX2 TX2 11, w ∈ wsX2_topRow := by decide +kernel
theorem mX2_topRow_f18 : Cond.fieldLink RX2 18 "YearBook$Picture" "ys" "[I" ∈ wsX2_topRow := by decide +kernel
theorem mX2_topRow_m53 : Cond.methodLink RX2 53 Lib.Math.min.name ∈ wsX2_topRow := by decide +kernel
theorem mX2_topRow_s53 : Cond.static Lib.Math.min.name ∈ wsX2_topRow := by decide +kernel
theorem mX2_topRow_iMath : Cond.initialized "java/lang/Math" ∈ wsX2_topRow := by decide +kernel
theorem mX2_topRow_k53 : Cond.code Lib.Math.min.name Lib.Math.min.code 2 (some .int) ∈ wsX2_topRow := by decide +kernel
set_option maxHeartbeats 4000000 in
set_option maxRecDepth 100000 in
theorem tX2_topRow (l : Launch) (dC : Nat → ClassId) (dI : Nat → Nat → Nat) (cI : ClassId) (h : Nat) (ad : Nat → Nat)  (sz : Nat) (post : Int32 → Prop) (p1 : Int32) (p2 : Int32) (I : Nat → Int32) (R : Nat → Nat → Int32) (hq : qX2_topRow post p1 p2 I R) : Met l yX2_topRow wsX2_topRow ({ frames := 1, cells := 0, slots := 0, locals := 30 } : Room) (va_Pc [.ref h, .int p1, .int p2] (wPre (dC, dI) vwCl [(cI, .int)] (wd2 cI h ad I R) sz)) (va_Qi (fun r (_ : Unit) => post r ) (wAt (dC, dI) vwCl [(cI, .int)] (va_A (wd2 cI h ad I R) sz) (fun _ : Unit => wd2 cI h ad I R)) (va_A (wd2 cI h ad I R) sz)) 0 0 (va_A (wd2 cI h ad I R) sz) := by
  unfold qX2_topRow at hq
  refine Met.ofW (cc := cX2_topRow) (maxL := 6) (ret := (some .int)) (by decide) rfl ?_
  intro p e s m args below meth c s₁ B hml hv
  obtain ⟨rfl, hsz, hP, hK, hD0⟩ := hv
  have hx := B.exec
  have hb := B.bytes
  have hr := B.returns
  have hts := atoms_spec (ws := wsX2_topRow) B.pre
  have hown : s.vm.findClass RX2 = some m.cls := findClass_of_methodNamed B.named
  have hlocks := B.notSynchronized
  subst hsz
  have hD := hD0.self (sz := s.heap.size)
  generalize hAe : va_A (wd2 cI h ad I R) s.heap.size = A at hD ⊢
  have hA : ∀ q : Nat, s.heap.size ≤ q → A q := fun q h => by rw [← hAe]; exact Or.inr h
  have hS : va_S A s.heap s.heap [] := va_S.rf
  have hZ : zX2_topRow post p1 p2 I R
      (fun (x3 : Int32) (x4 : Int32) => ∀ (H : Heap) (locs : List Loc) (ls : Array Slot), va_P (dC, dI) vwCl (wd2 cI h ad I R) H → va_D A (wd2 cI h ad I R) → va_S A s.heap H locs → lv_has ls 6 [(0, .ref h), (1, .int p1), (2, .int p2), (3, .int x3), (4, .int x4)] → W p l e (headSpec wsX2_topRow ({ frames := 1, cells := 0, slots := 0, locals := 30 } : Room)).room s m ([.ref h, .int p1, .int p2] : List Value).toArray below meth c H locs 0 0 (MQ below (va_Qi (fun r (_ : Unit) => post r ) (wAt (dC, dI) vwCl [(cI, .int)] A (fun _ : Unit => wd2 cI h ad I R)) A) ([.ref h, .int p1, .int p2] : List Value).toArray s 0 0 A) (F0 m 7 ls []))
      (fun (x3 : Int32) (x4 : Int32) (x5 : Int32) => ∀ (H : Heap) (locs : List Loc) (ls : Array Slot), va_P (dC, dI) vwCl (wd2 cI h ad I R) H → va_D A (wd2 cI h ad I R) → va_S A s.heap H locs → lv_has ls 6 [(0, .ref h), (1, .int p1), (2, .int p2), (3, .int x3), (4, .int x4), (5, .int x5)] → W p l e (headSpec wsX2_topRow ({ frames := 1, cells := 0, slots := 0, locals := 30 } : Room)).room s m ([.ref h, .int p1, .int p2] : List Value).toArray below meth c H locs 0 0 (MQ below (va_Qi (fun r (_ : Unit) => post r ) (wAt (dC, dI) vwCl [(cI, .int)] A (fun _ : Unit => wd2 cI h ad I R)) A) ([.ref h, .int p1, .int p2] : List Value).toArray s 0 0 A) (F0 m 49 ls [])) := by
    refine ⟨?_, ?_⟩
    · intro x3 x4 hq H locs ls hP hD hS hl
      refine lv_iload hx hb dX2_topRow_7 (lv_at hl 4 rfl) ?_
      refine lv_aload_n hx hb dX2_topRow_9 rfl (lv_at hl 0 rfl) ?_
      refine va_get (D := (dC, dI)) (ci := 2) (v := .int (I 3)) (C := RX2) (T := TX2) (N := 11) hx hb hts nX2_topRow_X2 hown hK hP 0 rfl rfl 3 (by decide) (hts _ mX2_topRow_f37) (fun _ h9 => h9) rfl dX2_topRow_10 ?_
      refine lv_icmp_ge (tgt := 43) hx hb dX2_topRow_13 (by decide) (fun hc => ?_) (fun hc => ?_)
      · have hq := hq.1 hc
        refine lv_iconst (v := (0 : Int32)) hx hb dX2_topRow_43 (by decide) ?_
        refine lv_istore (lv' := [(4, .int (0 : Int32)), (0, .ref h), (1, .int p1), (2, .int p2), (3, .int x3)]) hx hb dX2_topRow_44 hl (by decide) rfl (fun ls hl => ?_)
        refine lv_iconst (v := (0 : Int32)) hx hb dX2_topRow_46 (by decide) ?_
        refine lv_istore (lv' := [(5, .int (0 : Int32)), (4, .int (0 : Int32)), (0, .ref h), (1, .int p1), (2, .int p2), (3, .int x3)]) hx hb dX2_topRow_47 hl (by decide) rfl (fun ls hl => ?_)
        exact hq _ _ ls hP hD hS (lv_sub hl [2, 3, 4, 5, 1, 0] rfl)
      · have hq := hq.2 hc
        refine lv_iload_n hx hb dX2_topRow_16 rfl (lv_at hl 1 rfl) ?_
        refine lv_iload hx hb dX2_topRow_17 (lv_at hl 4 rfl) ?_
        refine lv_ishr hx hb dX2_topRow_19 ?_
        refine lv_iconst (v := (1 : Int32)) hx hb dX2_topRow_20 (by decide) ?_
        refine lv_iand hx hb dX2_topRow_21 ?_
        refine lv_if_eq (tgt := 37) hx hb dX2_topRow_22 (by decide) (fun hc => ?_) (fun hc => ?_)
        · have hq := hq.1 hc
          refine lv_iinc (v := x4 + (1 : Int32)) (lv' := [(4, .int (x4 + (1 : Int32))), (0, .ref h), (1, .int p1), (2, .int p2), (3, .int x3)]) hx hb dX2_topRow_37 hl (k := 4) rfl rfl (by decide) rfl (fun ls hl => ?_)
          refine lv_goto (tgt := 7) hx hb dX2_topRow_40 (by decide) ?_
          exact hq _ _ ls hP hD hS (lv_sub hl [1, 2, 3, 4, 0] rfl)
        · have hq := hq.2 hc
          refine lv_iload_n hx hb dX2_topRow_25 rfl (lv_at hl 3 rfl) ?_
          refine lv_aload_n hx hb dX2_topRow_26 rfl (lv_at hl 0 rfl) ?_
          refine va_get (D := (dC, dI)) (ci := 2) (v := .ref (ad 6)) (C := RX2) (T := TX2) (N := 11) hx hb hts nX2_topRow_X2 hown hK hP 0 rfl rfl 6 (by decide) (hts _ mX2_topRow_f18) (fun _ h9 => h9) rfl dX2_topRow_27 ?_
          refine lv_iload hx hb dX2_topRow_30 (lv_at hl 4 rfl) ?_
          obtain ⟨hi_1, hq⟩ := hq
          refine va_iald (f := R 6) hx hb hK hP 3 0 rfl rfl hi_1 dX2_topRow_32 ?_
          refine va_mmin hx hb (hml.trans hl.1.symm) hown (hts _ mX2_topRow_m53) (hts _ mX2_topRow_s53) (hts _ mX2_topRow_iMath) (hts _ mX2_topRow_k53) (Nat.le_of_ble_eq_true rfl) (Nat.le_of_ble_eq_true rfl) (Nat.zero_le _) (Nat.zero_le _) dX2_topRow_33 ?_
          refine lv_topi (fun v_2 ev_2 => ?_)
          have hq := hq v_2 ev_2
          refine lv_istore_n (lv' := [(3, .int v_2), (0, .ref h), (1, .int p1), (2, .int p2), (4, .int x4)]) hx hb dX2_topRow_36 rfl hl (by decide) rfl (fun ls hl => ?_)
          refine lv_iinc (v := x4 + (1 : Int32)) (lv' := [(4, .int (x4 + (1 : Int32))), (3, .int v_2), (0, .ref h), (1, .int p1), (2, .int p2)]) hx hb dX2_topRow_37 hl (k := 4) rfl rfl (by decide) rfl (fun ls hl => ?_)
          refine lv_goto (tgt := 7) hx hb dX2_topRow_40 (by decide) ?_
          exact hq _ _ ls hP hD hS (lv_sub hl [2, 3, 4, 1, 0] rfl)
    · intro x3 x4 x5 hq H locs ls hP hD hS hl
      refine lv_iload hx hb dX2_topRow_49 (lv_at hl 5 rfl) ?_
      refine lv_aload_n hx hb dX2_topRow_51 rfl (lv_at hl 0 rfl) ?_
      refine va_get (D := (dC, dI)) (ci := 2) (v := .int (I 3)) (C := RX2) (T := TX2) (N := 11) hx hb hts nX2_topRow_X2 hown hK hP 0 rfl rfl 3 (by decide) (hts _ mX2_topRow_f37) (fun _ h9 => h9) rfl dX2_topRow_52 ?_
      refine lv_icmp_ge (tgt := 95) hx hb dX2_topRow_55 (by decide) (fun hc => ?_) (fun hc => ?_)
      · have hq := hq.1 hc
        refine lv_iload hx hb dX2_topRow_95 (lv_at hl 4 rfl) ?_
        exact w_iret (post := fun r (_ : Unit) => post r ) (wf := fun _ : Unit => wd2 cI h ad I R) (u := ()) hx hb hr hK hP hD hS hq dX2_topRow_97 hlocks
      · have hq := hq.2 hc
        refine lv_iload_n hx hb dX2_topRow_58 rfl (lv_at hl 1 rfl) ?_
        refine lv_iload hx hb dX2_topRow_59 (lv_at hl 5 rfl) ?_
        refine lv_ishr hx hb dX2_topRow_61 ?_
        refine lv_iconst (v := (1 : Int32)) hx hb dX2_topRow_62 (by decide) ?_
        refine lv_iand hx hb dX2_topRow_63 ?_
        refine lv_if_eq (tgt := 89) hx hb dX2_topRow_64 (by decide) (fun hc => ?_) (fun hc => ?_)
        · have hq := hq.1 hc
          refine lv_iinc (v := x5 + (1 : Int32)) (lv' := [(5, .int (x5 + (1 : Int32))), (0, .ref h), (1, .int p1), (2, .int p2), (3, .int x3), (4, .int x4)]) hx hb dX2_topRow_89 hl (k := 5) rfl rfl (by decide) rfl (fun ls hl => ?_)
          refine lv_goto (tgt := 49) hx hb dX2_topRow_92 (by decide) ?_
          exact hq _ _ ls hP hD hS (lv_sub hl [1, 2, 3, 4, 5, 0] rfl)
        · have hq := hq.2 hc
          refine lv_aload_n hx hb dX2_topRow_67 rfl (lv_at hl 0 rfl) ?_
          refine va_get (D := (dC, dI)) (ci := 2) (v := .ref (ad 6)) (C := RX2) (T := TX2) (N := 11) hx hb hts nX2_topRow_X2 hown hK hP 0 rfl rfl 6 (by decide) (hts _ mX2_topRow_f18) (fun _ h9 => h9) rfl dX2_topRow_68 ?_
          refine lv_iload hx hb dX2_topRow_71 (lv_at hl 5 rfl) ?_
          obtain ⟨hi_3, hq⟩ := hq
          refine va_iald (f := R 6) hx hb hK hP 3 0 rfl rfl hi_3 dX2_topRow_73 ?_
          refine lv_iload_n hx hb dX2_topRow_74 rfl (lv_at hl 3 rfl) ?_
          refine lv_isub hx hb dX2_topRow_75 ?_
          refine lv_iload_n hx hb dX2_topRow_76 rfl (lv_at hl 2 rfl) ?_
          refine lv_icmp_gt (tgt := 89) hx hb dX2_topRow_77 (by decide) (fun hc => ?_) (fun hc => ?_)
          · have hq := hq.1 hc
            refine lv_iinc (v := x5 + (1 : Int32)) (lv' := [(5, .int (x5 + (1 : Int32))), (0, .ref h), (1, .int p1), (2, .int p2), (3, .int x3), (4, .int x4)]) hx hb dX2_topRow_89 hl (k := 5) rfl rfl (by decide) rfl (fun ls hl => ?_)
            refine lv_goto (tgt := 49) hx hb dX2_topRow_92 (by decide) ?_
            exact hq _ _ ls hP hD hS (lv_sub hl [1, 2, 3, 4, 5, 0] rfl)
          · have hq := hq.2 hc
            refine lv_iload hx hb dX2_topRow_80 (lv_at hl 4 rfl) ?_
            refine lv_iconst (v := (1 : Int32)) hx hb dX2_topRow_82 (by decide) ?_
            refine lv_iload hx hb dX2_topRow_83 (lv_at hl 5 rfl) ?_
            refine lv_ishl hx hb dX2_topRow_85 ?_
            refine lv_ior hx hb dX2_topRow_86 ?_
            refine lv_topi (fun x4_4 ex4_4 => ?_)
            have hq := hq x4_4 ex4_4
            refine lv_istore (lv' := [(4, .int x4_4), (0, .ref h), (1, .int p1), (2, .int p2), (3, .int x3), (5, .int x5)]) hx hb dX2_topRow_87 hl (by decide) rfl (fun ls hl => ?_)
            refine lv_iinc (v := x5 + (1 : Int32)) (lv' := [(5, .int (x5 + (1 : Int32))), (4, .int x4_4), (0, .ref h), (1, .int p1), (2, .int p2), (3, .int x3)]) hx hb dX2_topRow_89 hl (k := 5) rfl rfl (by decide) rfl (fun ls hl => ?_)
            refine lv_goto (tgt := 49) hx hb dX2_topRow_92 (by decide) ?_
            exact hq _ _ ls hP hD hS (lv_sub hl [2, 3, 4, 5, 1, 0] rfl)
  have hl := lv_entry ([.ref h, .int p1, .int p2]) (n := 6) (Nat.le_of_ble_eq_true rfl)
  rw [lg_entry_eq]
  generalize (lg_sl ([.ref h, .int p1, .int p2]) ++ List.replicate (6 - (lg_sl ([.ref h, .int p1, .int p2])).length) Slot.unset).toArray = ls at hl ⊢
  have hl : lv_has ls 6 [(0, .ref h), (1, .int p1), (2, .int p2)] := hl
  refine lv_sipush (v := (1000 : Int32)) hx hb dX2_topRow_0 (si_1000) ?_
  refine lv_istore_n (lv' := [(3, .int (1000 : Int32)), (0, .ref h), (1, .int p1), (2, .int p2)]) hx hb dX2_topRow_3 rfl hl (by decide) rfl (fun ls hl => ?_)
  refine lv_iconst (v := (0 : Int32)) hx hb dX2_topRow_4 (by decide) ?_
  refine lv_istore (lv' := [(4, .int (0 : Int32)), (3, .int (1000 : Int32)), (0, .ref h), (1, .int p1), (2, .int p2)]) hx hb dX2_topRow_5 hl (by decide) rfl (fun ls hl => ?_)
  exact hq _ _ hZ _ _ ls hP hD hS (lv_sub hl [2, 3, 4, 1, 0] rfl)
def zX2_nameAt (post : Int32 → Prop) (p1 : Int32) (p2 : Int32) (I : Nat → Int32) (R : Nat → Nat → Int32) (X11 : Int32 → Int32 → Int32 → Prop) : Prop :=
  (∀ (x3 : Int32) (x4 : Int32) (x5 : Int32), ((((8 : Int32) ≤ x5) → (post (-1 : Int32))) ∧ ((¬ (8 : Int32) ≤ x5) → (((x3 = 0) → (post (-1 : Int32))) ∧ ((¬ x3 = 0) → (∃ Pc_2 : Int32 → Prop, qX2_topRow Pc_2 x3 p2 I R ∧ (∀ (rc_2 : Int32), Pc_2 rc_2 → (∃ Pc_3 : Int32 → Prop, qJ6_bitCount_0f7a4 Pc_3 rc_2 ∧ (∀ (rc_3 : Int32), Pc_3 rc_3 → (((rc_3 ≤ x4) → (∀ x4_4 : Int32, x4_4 = x4 - rc_3 → (∀ x3_5 : Int32, x3_5 = x3 &&& (rc_2 ^^^ (-1 : Int32)) → (X11 x3_5 x4_4 (x5 + (1 : Int32)))))) ∧ ((¬ rc_3 ≤ x4) → (∃ Pc_6 : Int32 → Prop, qX2_childInRow Pc_6 rc_2 x4 I R ∧ (∀ (rc_6 : Int32), Pc_6 rc_6 → (post rc_6))))))))))))) → X11 x3 x4 x5)
def qX2_nameAt_11 (post : Int32 → Prop) (p1 : Int32) (p2 : Int32) (I : Nat → Int32) (R : Nat → Nat → Int32) (x3 : Int32) (x4 : Int32) (x5 : Int32) : Prop := ∀ (X11 : Int32 → Int32 → Int32 → Prop), zX2_nameAt post p1 p2 I R X11 → X11 x3 x4 x5
theorem kX2_nameAt_11 {post : Int32 → Prop} {p1 : Int32} {p2 : Int32} {I : Nat → Int32} {R : Nat → Nat → Int32} {x3 : Int32} {x4 : Int32} {x5 : Int32} (h : (((8 : Int32) ≤ x5) → (post (-1 : Int32))) ∧ ((¬ (8 : Int32) ≤ x5) → (((x3 = 0) → (post (-1 : Int32))) ∧ ((¬ x3 = 0) → (∃ Pc_2 : Int32 → Prop, qX2_topRow Pc_2 x3 p2 I R ∧ (∀ (rc_2 : Int32), Pc_2 rc_2 → (∃ Pc_3 : Int32 → Prop, qJ6_bitCount_0f7a4 Pc_3 rc_2 ∧ (∀ (rc_3 : Int32), Pc_3 rc_3 → (((rc_3 ≤ x4) → (∀ x4_4 : Int32, x4_4 = x4 - rc_3 → (∀ x3_5 : Int32, x3_5 = x3 &&& (rc_2 ^^^ (-1 : Int32)) → (qX2_nameAt_11 post p1 p2 I R x3_5 x4_4 (x5 + (1 : Int32)))))) ∧ ((¬ rc_3 ≤ x4) → (∃ Pc_6 : Int32 → Prop, qX2_childInRow Pc_6 rc_2 x4 I R ∧ (∀ (rc_6 : Int32), Pc_6 rc_6 → (post rc_6))))))))))))) : qX2_nameAt_11 post p1 p2 I R x3 x4 x5 := by
  intro Z11 hcl
  refine hcl x3 x4 x5 ?_
  refine ⟨fun c => ?_, fun c => ?_⟩
  · have h := h.1 c
    exact h
  · have h := h.2 c
    refine ⟨fun c => ?_, fun c => ?_⟩
    · have h := h.1 c
      exact h
    · have h := h.2 c
      obtain ⟨P, h1, h2⟩ := h
      refine ⟨P, h1, fun b0 hp => ?_⟩
      have h := h2 b0 hp
      obtain ⟨P, h1, h2⟩ := h
      refine ⟨P, h1, fun b0 hp => ?_⟩
      have h := h2 b0 hp
      refine ⟨fun c => ?_, fun c => ?_⟩
      · have h := h.1 c
        intro x e
        have h := h x e
        intro x e
        have h := h x e
        exact h _ hcl
      · have h := h.2 c
        obtain ⟨P, h1, h2⟩ := h
        refine ⟨P, h1, fun b0 hp => ?_⟩
        have h := h2 b0 hp
        exact h
def qX2_nameAt (post : Int32 → Prop) (p1 : Int32) (p2 : Int32) (I : Nat → Int32) (R : Nat → Nat → Int32) : Prop := ∀ x3_1 : Int32, x3_1 = I 8 → (qX2_nameAt_11 post p1 p2 I R x3_1 p1 (0 : Int32))
theorem mX2_nameAt_f40 : Cond.fieldLink RX2 40 "YearBook$Picture" "allowed" "I" ∈ wsX2_nameAt := by decide +kernel
theorem nX2_nameAt_X2 : ∀ w ∈ u_ws RX2 TX2 11, w ∈ wsX2_nameAt := by decide +kernel
set_option maxHeartbeats 4000000 in
set_option maxRecDepth 100000 in
theorem tX2_nameAt (l : Launch) (dC : Nat → ClassId) (dI : Nat → Nat → Nat) (cI : ClassId) (h : Nat) (ad : Nat → Nat)  (sz : Nat) (post : Int32 → Prop) (p1 : Int32) (p2 : Int32) (I : Nat → Int32) (R : Nat → Nat → Int32) (hq : qX2_nameAt post p1 p2 I R) : Met l yX2_nameAt wsX2_nameAt ({ frames := 2, cells := 0, slots := 0, locals := 55 } : Room) (va_Pc [.ref h, .int p1, .int p2] (wPre (dC, dI) vwCl [(cI, .int)] (wd2 cI h ad I R) sz)) (va_Qi (fun r (_ : Unit) => post r ) (wAt (dC, dI) vwCl [(cI, .int)] (va_A (wd2 cI h ad I R) sz) (fun _ : Unit => wd2 cI h ad I R)) (va_A (wd2 cI h ad I R) sz)) 0 0 (va_A (wd2 cI h ad I R) sz) := by
  unfold qX2_nameAt at hq
  refine Met.ofW (cc := cX2_nameAt) (maxL := 8) (ret := (some .int)) (by decide) rfl ?_
  intro p e s m args below meth c s₁ B hml hv
  obtain ⟨rfl, hsz, hP, hK, hD0⟩ := hv
  have hx := B.exec
  have hb := B.bytes
  have hr := B.returns
  have hts := atoms_spec (ws := wsX2_nameAt) B.pre
  have hown : s.vm.findClass RX2 = some m.cls := findClass_of_methodNamed B.named
  have hlocks := B.notSynchronized
  subst hsz
  have hD := hD0.self (sz := s.heap.size)
  generalize hAe : va_A (wd2 cI h ad I R) s.heap.size = A at hD ⊢
  have hA : ∀ q : Nat, s.heap.size ≤ q → A q := fun q h => by rw [← hAe]; exact Or.inr h
  have hS : va_S A s.heap s.heap [] := va_S.rf
  have hZ : zX2_nameAt post p1 p2 I R
      (fun (x3 : Int32) (x4 : Int32) (x5 : Int32) => ∀ (H : Heap) (locs : List Loc) (ls : Array Slot), va_P (dC, dI) vwCl (wd2 cI h ad I R) H → va_D A (wd2 cI h ad I R) → va_S A s.heap H locs → lv_has ls 8 [(0, .ref h), (2, .int p2), (3, .int x3), (4, .int x4), (5, .int x5)] → W p l e (headSpec wsX2_nameAt ({ frames := 2, cells := 0, slots := 0, locals := 55 } : Room)).room s m ([.ref h, .int p1, .int p2] : List Value).toArray below meth c H locs 0 0 (MQ below (va_Qi (fun r (_ : Unit) => post r ) (wAt (dC, dI) vwCl [(cI, .int)] A (fun _ : Unit => wd2 cI h ad I R)) A) ([.ref h, .int p1, .int p2] : List Value).toArray s 0 0 A) (F0 m 11 ls [])) := by
    unfold zX2_nameAt
    intro x3 x4 x5 hq H locs ls hP hD hS hl
    refine lv_iload hx hb dX2_nameAt_11 (lv_at hl 4 rfl) ?_
    refine lv_bipush (v := (8 : Int32)) hx hb dX2_nameAt_13 (by decide) ?_
    refine lv_icmp_ge (tgt := 73) hx hb dX2_nameAt_15 (by decide) (fun hc => ?_) (fun hc => ?_)
    · have hq := hq.1 hc
      refine lv_iconst (v := (-1 : Int32)) hx hb dX2_nameAt_73 (by decide) ?_
      exact w_iret (post := fun r (_ : Unit) => post r ) (wf := fun _ : Unit => wd2 cI h ad I R) (u := ()) hx hb hr hK hP hD hS hq dX2_nameAt_74 hlocks
    · have hq := hq.2 hc
      refine lv_iload_n hx hb dX2_nameAt_18 rfl (lv_at hl 2 rfl) ?_
      refine lv_if_eq (tgt := 73) hx hb dX2_nameAt_19 (by decide) (fun hc => ?_) (fun hc => ?_)
      · have hq := hq.1 hc
        refine lv_iconst (v := (-1 : Int32)) hx hb dX2_nameAt_73 (by decide) ?_
        exact w_iret (post := fun r (_ : Unit) => post r ) (wf := fun _ : Unit => wd2 cI h ad I R) (u := ()) hx hb hr hK hP hD hS hq dX2_nameAt_74 hlocks
      · have hq := hq.2 hc
        refine lv_aload_n hx hb dX2_nameAt_22 rfl (lv_at hl 0 rfl) ?_
        refine lv_iload_n hx hb dX2_nameAt_23 rfl (lv_at hl 2 rfl) ?_
        refine lv_iload_n hx hb dX2_nameAt_24 rfl (lv_at hl 1 rfl) ?_
        obtain ⟨Pc_2, hc, hq⟩ := hq
        refine w_calli (wf := fun _ : Unit => wd2 cI h ad I R) (va_runV (As := [.int x3, .int p2]) (rest := []) ⟨hx, hb, hml, hown, hts⟩ (tX2_topRow l dC dI cI h ad _ Pc_2 x3 p2 I R hc) (cwV 2 hts gX2_nameAt_X2_topRow rfl rfl rfl (by decide +kernel) ⟨Nat.le_of_ble_eq_true rfl, Nat.le_of_ble_eq_true rfl⟩) (wPreV hK hP hD (ci := 2) (q0 := 0) rfl rfl) rfl rfl hl.1 rfl (lv_room (Nat.le_of_ble_eq_true rfl)) dX2_nameAt_25 ⟨Nat.le_of_ble_eq_true rfl, Nat.le_of_ble_eq_true rfl⟩) hD hS hA (fun rc_2 u H locs hp hP hD hS => ?_)
        have hq := hq rc_2 hp
        have hP : va_P (dC, dI) vwCl (wd2 cI h ad I R) H := hP
        have hD : va_D A (wd2 cI h ad I R) := hD
        refine lv_istore (lv' := [(6, .int rc_2), (0, .ref h), (2, .int p2), (3, .int x3), (4, .int x4), (5, .int x5)]) hx hb dX2_nameAt_28 hl (by decide) rfl (fun ls hl => ?_)
        refine lv_iload hx hb dX2_nameAt_30 (lv_at hl 0 rfl) ?_
        obtain ⟨Pc_3, hc, hq⟩ := hq
        refine vp_callSi (W.runS (As := [.int rc_2]) (rest := []) ⟨hx, hb, hml, hown, hts⟩ (tJ6_bitCount_0f7a4 l Pc_3 rc_2 hc) (va_cwS 1 hts gX2_nameAt_J6_bitCount_0f7a4 rfl rfl rfl (by decide +kernel) ⟨Nat.le_of_ble_eq_true rfl, Nat.le_of_ble_eq_true rfl⟩) preEq rfl rfl hl.1 rfl (lv_room (Nat.le_of_ble_eq_true rfl)) dX2_nameAt_32 ⟨Nat.le_of_ble_eq_true rfl, Nat.le_of_ble_eq_true rfl⟩) (fun rc_3 hp => ?_)
        have hq := hq rc_3 hp
        refine lv_istore (lv' := [(7, .int rc_3), (6, .int rc_2), (0, .ref h), (2, .int p2), (3, .int x3), (4, .int x4), (5, .int x5)]) hx hb dX2_nameAt_35 hl (by decide) rfl (fun ls hl => ?_)
        refine lv_iload hx hb dX2_nameAt_37 (lv_at hl 5 rfl) ?_
        refine lv_iload hx hb dX2_nameAt_39 (lv_at hl 0 rfl) ?_
        refine lv_icmp_ge (tgt := 53) hx hb dX2_nameAt_41 (by decide) (fun hc => ?_) (fun hc => ?_)
        · have hq := hq.1 hc
          refine lv_iload hx hb dX2_nameAt_53 (lv_at hl 5 rfl) ?_
          refine lv_iload hx hb dX2_nameAt_55 (lv_at hl 0 rfl) ?_
          refine lv_isub hx hb dX2_nameAt_57 ?_
          refine lv_topi (fun x4_4 ex4_4 => ?_)
          have hq := hq x4_4 ex4_4
          refine lv_istore (lv' := [(4, .int x4_4), (7, .int rc_3), (6, .int rc_2), (0, .ref h), (2, .int p2), (3, .int x3), (5, .int x5)]) hx hb dX2_nameAt_58 hl (by decide) rfl (fun ls hl => ?_)
          refine lv_iload_n hx hb dX2_nameAt_60 rfl (lv_at hl 5 rfl) ?_
          refine lv_iload hx hb dX2_nameAt_61 (lv_at hl 2 rfl) ?_
          refine lv_iconst (v := (-1 : Int32)) hx hb dX2_nameAt_63 (by decide) ?_
          refine lv_ixor hx hb dX2_nameAt_64 ?_
          refine lv_iand hx hb dX2_nameAt_65 ?_
          refine lv_topi (fun x3_5 ex3_5 => ?_)
          have hq := hq x3_5 ex3_5
          refine lv_istore_n (lv' := [(3, .int x3_5), (4, .int x4_4), (7, .int rc_3), (6, .int rc_2), (0, .ref h), (2, .int p2), (5, .int x5)]) hx hb dX2_nameAt_66 rfl hl (by decide) rfl (fun ls hl => ?_)
          refine lv_iinc (v := x5 + (1 : Int32)) (lv' := [(5, .int (x5 + (1 : Int32))), (3, .int x3_5), (4, .int x4_4), (7, .int rc_3), (6, .int rc_2), (0, .ref h), (2, .int p2)]) hx hb dX2_nameAt_67 hl (k := 6) rfl rfl (by decide) rfl (fun ls hl => ?_)
          refine lv_goto (tgt := 11) hx hb dX2_nameAt_70 (by decide) ?_
          exact hq _ _ ls hP hD hS (lv_sub hl [5, 6, 1, 2, 0] rfl)
        · have hq := hq.2 hc
          refine lv_aload_n hx hb dX2_nameAt_44 rfl (lv_at hl 2 rfl) ?_
          refine lv_iload hx hb dX2_nameAt_45 (lv_at hl 1 rfl) ?_
          refine lv_iload hx hb dX2_nameAt_47 (lv_at hl 5 rfl) ?_
          obtain ⟨Pc_6, hc, hq⟩ := hq
          refine w_calli (wf := fun _ : Unit => wd2 cI h ad I R) (va_runV (As := [.int rc_2, .int x4]) (rest := []) ⟨hx, hb, hml, hown, hts⟩ (tX2_childInRow l dC dI cI h ad _ Pc_6 rc_2 x4 I R hc) (cwV 2 hts gX2_nameAt_X2_childInRow rfl rfl rfl (by decide +kernel) ⟨Nat.le_of_ble_eq_true rfl, Nat.le_of_ble_eq_true rfl⟩) (wPreV hK hP hD (ci := 2) (q0 := 0) rfl rfl) rfl rfl hl.1 rfl (lv_room (Nat.le_of_ble_eq_true rfl)) dX2_nameAt_49 ⟨Nat.le_of_ble_eq_true rfl, Nat.le_of_ble_eq_true rfl⟩) hD hS hA (fun rc_6 u H locs hp hP hD hS => ?_)
          have hq := hq rc_6 hp
          have hP : va_P (dC, dI) vwCl (wd2 cI h ad I R) H := hP
          have hD : va_D A (wd2 cI h ad I R) := hD
          exact w_iret (post := fun r (_ : Unit) => post r ) (wf := fun _ : Unit => wd2 cI h ad I R) (u := ()) hx hb hr hK hP hD hS hq dX2_nameAt_52 hlocks
  have hl := lv_entry ([.ref h, .int p1, .int p2]) (n := 8) (Nat.le_of_ble_eq_true rfl)
  rw [lg_entry_eq]
  generalize (lg_sl ([.ref h, .int p1, .int p2]) ++ List.replicate (8 - (lg_sl ([.ref h, .int p1, .int p2])).length) Slot.unset).toArray = ls at hl ⊢
  have hl : lv_has ls 8 [(0, .ref h), (1, .int p1), (2, .int p2)] := hl
  refine lv_aload_n hx hb dX2_nameAt_0 rfl (lv_at hl 0 rfl) ?_
  refine va_get (D := (dC, dI)) (ci := 2) (v := .int (I 8)) (C := RX2) (T := TX2) (N := 11) hx hb hts nX2_nameAt_X2 hown hK hP 0 rfl rfl 8 (by decide) (hts _ mX2_nameAt_f40) (fun _ h9 => h9) rfl dX2_nameAt_1 ?_
  refine lv_topi (fun x3_1 ex3_1 => ?_)
  have hq := hq x3_1 ex3_1
  refine lv_istore_n (lv' := [(3, .int x3_1), (0, .ref h), (1, .int p1), (2, .int p2)]) hx hb dX2_nameAt_4 rfl hl (by decide) rfl (fun ls hl => ?_)
  refine lv_iload_n hx hb dX2_nameAt_5 rfl (lv_at hl 2 rfl) ?_
  refine lv_istore (lv' := [(4, .int p1), (3, .int x3_1), (0, .ref h), (1, .int p1), (2, .int p2)]) hx hb dX2_nameAt_6 hl (by decide) rfl (fun ls hl => ?_)
  refine lv_iconst (v := (0 : Int32)) hx hb dX2_nameAt_8 (by decide) ?_
  refine lv_istore (lv' := [(5, .int (0 : Int32)), (4, .int p1), (3, .int x3_1), (0, .ref h), (1, .int p1), (2, .int p2)]) hx hb dX2_nameAt_9 hl (by decide) rfl (fun ls hl => ?_)
  exact hq _ hZ _ _ ls hP hD hS (lv_sub hl [3, 5, 2, 1, 0] rfl)
