def zX2_frame (post : (Nat → Int32) → (Nat → Nat → Int32) → Prop) (X38 : Int32 → (Nat → Int32) → (Nat → Nat → Int32) → Prop) : Prop :=
  (∀ (x1 : Int32) (I : Nat → Int32) (R : Nat → Nat → Int32), ((((I 3) ≤ x1) → (post I R)) ∧ ((¬ (I 3) ≤ x1) → ((((((I 8) >>> (x1 &&& 31)) &&& (1 : Int32)) = 0) → (X38 (x1 + (1 : Int32)) I R)) ∧ ((¬ (((I 8) >>> (x1 &&& 31)) &&& (1 : Int32)) = 0) → (vp_in x1 8 ∧ (∀ v_2 : Int32, v_2 = (if (R 5 x1.toNatClampNeg) - (R 7 x1.toNatClampNeg) < R 10 0 then (R 5 x1.toNatClampNeg) - (R 7 x1.toNatClampNeg) else R 10 0) → (∀ v_3 : Int32, v_3 = (upd (R 10) 0 v_2) 1 → (∀ v_4 : Int32, v_4 = (if (R 6 x1.toNatClampNeg) - (R 7 x1.toNatClampNeg) < v_3 then (R 6 x1.toNatClampNeg) - (R 7 x1.toNatClampNeg) else v_3) → (∀ v_5 : Int32, v_5 = (upd (upd (R 10) 0 v_2) 1 v_4) 2 → (∀ v_6 : Int32, v_6 = (if v_5 < (R 5 x1.toNatClampNeg) + (R 7 x1.toNatClampNeg) then (R 5 x1.toNatClampNeg) + (R 7 x1.toNatClampNeg) else v_5) → (∀ v_7 : Int32, v_7 = (upd (upd (upd (R 10) 0 v_2) 1 v_4) 2 v_6) 3 → (∀ v_8 : Int32, v_8 = (if v_7 < (R 6 x1.toNatClampNeg) + (R 7 x1.toNatClampNeg) then (R 6 x1.toNatClampNeg) + (R 7 x1.toNatClampNeg) else v_7) → (X38 (x1 + (1 : Int32)) I (va_up R 10 (upd (upd (upd (upd (R 10) 0 v_2) 1 v_4) 2 v_6) 3 v_8))))))))))))))) → X38 x1 I R)
def qX2_frame_38 (post : (Nat → Int32) → (Nat → Nat → Int32) → Prop) (x1 : Int32) (I : Nat → Int32) (R : Nat → Nat → Int32) : Prop := ∀ (X38 : Int32 → (Nat → Int32) → (Nat → Nat → Int32) → Prop), zX2_frame post X38 → X38 x1 I R
theorem kX2_frame_38 {post : (Nat → Int32) → (Nat → Nat → Int32) → Prop} {x1 : Int32} {I : Nat → Int32} {R : Nat → Nat → Int32} (h : (((I 3) ≤ x1) → (post I R)) ∧ ((¬ (I 3) ≤ x1) → ((((((I 8) >>> (x1 &&& 31)) &&& (1 : Int32)) = 0) → (qX2_frame_38 post (x1 + (1 : Int32)) I R)) ∧ ((¬ (((I 8) >>> (x1 &&& 31)) &&& (1 : Int32)) = 0) → (vp_in x1 8 ∧ (∀ v_2 : Int32, v_2 = (if (R 5 x1.toNatClampNeg) - (R 7 x1.toNatClampNeg) < R 10 0 then (R 5 x1.toNatClampNeg) - (R 7 x1.toNatClampNeg) else R 10 0) → (∀ v_3 : Int32, v_3 = (upd (R 10) 0 v_2) 1 → (∀ v_4 : Int32, v_4 = (if (R 6 x1.toNatClampNeg) - (R 7 x1.toNatClampNeg) < v_3 then (R 6 x1.toNatClampNeg) - (R 7 x1.toNatClampNeg) else v_3) → (∀ v_5 : Int32, v_5 = (upd (upd (R 10) 0 v_2) 1 v_4) 2 → (∀ v_6 : Int32, v_6 = (if v_5 < (R 5 x1.toNatClampNeg) + (R 7 x1.toNatClampNeg) then (R 5 x1.toNatClampNeg) + (R 7 x1.toNatClampNeg) else v_5) → (∀ v_7 : Int32, v_7 = (upd (upd (upd (R 10) 0 v_2) 1 v_4) 2 v_6) 3 → (∀ v_8 : Int32, v_8 = (if v_7 < (R 6 x1.toNatClampNeg) + (R 7 x1.toNatClampNeg) then (R 6 x1.toNatClampNeg) + (R 7 x1.toNatClampNeg) else v_7) → (qX2_frame_38 post (x1 + (1 : Int32)) I (va_up R 10 (upd (upd (upd (upd (R 10) 0 v_2) 1 v_4) 2 v_6) 3 v_8))))))))))))))) : qX2_frame_38 post x1 I R := by
  intro Z38 hcl
  refine hcl x1 I R ?_
  refine ⟨fun c => ?_, fun c => ?_⟩
  · have h := h.1 c
    exact h
  · have h := h.2 c
    refine ⟨fun c => ?_, fun c => ?_⟩
    · have h := h.1 c
      exact h _ hcl
    · have h := h.2 c
      refine ⟨h.1, ?_⟩
      have h := h.2
      intro x e
      have h := h x e
      intro x e
      have h := h x e
      intro x e
      have h := h x e
      intro x e
      have h := h x e
      intro x e
      have h := h x e
      intro x e
      have h := h x e
      intro x e
      have h := h x e
      exact h _ hcl
def qX2_frame (post : (Nat → Int32) → (Nat → Nat → Int32) → Prop) (I : Nat → Int32) (R : Nat → Nat → Int32) : Prop := qX2_frame_38 post (0 : Int32) I (va_up R 10 (upd (upd (upd (upd (R 10) 0 (1000 : Int32)) 1 (1000 : Int32)) 2 (-1000 : Int32)) 3 (-1000 : Int32)))
theorem mX2_frame_f24 : Cond.fieldLink RX2 24 "YearBook$Picture" "cut" "[I" ∈ wsX2_frame := by decide +kernel
theorem nX2_frame_X2 : ∀ w ∈ u_ws RX2 TX2 11, w ∈ wsX2_frame := by decide +kernel
theorem mX2_frame_f37 : Cond.fieldLink RX2 37 "YearBook$Picture" "faces" "I" ∈ wsX2_frame := by decide +kernel
theorem mX2_frame_f40 : Cond.fieldLink RX2 40 "YearBook$Picture" "allowed" "I" ∈ wsX2_frame := by decide +kernel
theorem mX2_frame_f15 : Cond.fieldLink RX2 15 "YearBook$Picture" "xs" "[I" ∈ wsX2_frame := by decide +kernel
theorem mX2_frame_f21 : Cond.fieldLink RX2 21 "YearBook$Picture" "halves" "[I" ∈ wsX2_frame := by decide +kernel
theorem mX2_frame_m53 : Cond.methodLink RX2 53 Lib.Math.min.name ∈ wsX2_frame := by decide +kernel
theorem mX2_frame_s53 : Cond.static Lib.Math.min.name ∈ wsX2_frame := by decide +kernel
theorem mX2_frame_iMath : Cond.initialized "java/lang/Math" ∈ wsX2_frame := by decide +kernel
theorem mX2_frame_k53 : Cond.code Lib.Math.min.name Lib.Math.min.code 2 (some .int) ∈ wsX2_frame := by decide +kernel
theorem mX2_frame_f18 : Cond.fieldLink RX2 18 "YearBook$Picture" "ys" "[I" ∈ wsX2_frame := by decide +kernel
theorem mX2_frame_m59 : Cond.methodLink RX2 59 Lib.Math.max.name ∈ wsX2_frame := by decide +kernel
theorem mX2_frame_s59 : Cond.static Lib.Math.max.name ∈ wsX2_frame := by decide +kernel
theorem mX2_frame_k59 : Cond.code Lib.Math.max.name Lib.Math.max.code 2 (some .int) ∈ wsX2_frame := by decide +kernel
set_option maxHeartbeats 200000 in
set_option maxRecDepth 100000 in
theorem tX2_frame (l : Launch) (dC : Nat → ClassId) (dI : Nat → Nat → Nat) (cI : ClassId) (h : Nat) (ad : Nat → Nat) (sz : Nat) (post : (Nat → Int32) → (Nat → Nat → Int32) → Prop) (I : Nat → Int32) (R : Nat → Nat → Int32) (hq : qX2_frame post I R) : Met l yX2_frame wsX2_frame ({ frames := 1, cells := 0, slots := 0, locals := 30 } : Room) (va_Pc [.ref h] (wPre (dC, dI) vwCl [(cI, .int)] (wd2 cI h ad I R) sz)) (va_Qv (fun (u : (Nat → Int32) × (Nat → Nat → Int32)) => post u.1 u.2) (wAt (dC, dI) vwCl [(cI, .int)] (va_A (wd2 cI h ad I R) sz) (fun u : (Nat → Int32) × (Nat → Nat → Int32) => wd2 cI h ad u.1 u.2)) (va_A (wd2 cI h ad I R) sz)) 0 0 (va_A (wd2 cI h ad I R) sz) := by
  unfold qX2_frame at hq
  refine Met.ofW (cc := cX2_frame) (maxL := 2) (ret := none) (by decide) rfl ?_
  intro p e s m args below meth c s₁ B hml hv
  obtain ⟨rfl, hsz, hP, hK, hD0⟩ := hv
  have hx := B.exec
  have hb := B.bytes
  have hr := B.returns
  have hts := atoms_spec (ws := wsX2_frame) B.pre
  have hown : s.vm.findClass RX2 = some m.cls := findClass_of_methodNamed B.named
  have hlocks := B.notSynchronized
  subst hsz
  have hD := hD0.self (sz := s.heap.size)
  generalize hAe : va_A (wd2 cI h ad I R) s.heap.size = A at hD ⊢
  have hA : ∀ q : Nat, s.heap.size ≤ q → A q := fun q h => by rw [← hAe]; exact Or.inr h
  have hS : va_S A s.heap s.heap [] := va_S.rf
  have hZ : zX2_frame post
      (fun (x1 : Int32) (I : Nat → Int32) (R : Nat → Nat → Int32) => ∀ (H : Heap) (locs : List Loc) (ls : Array Slot), va_P (dC, dI) vwCl (wd2 cI h ad I R) H → va_D A (wd2 cI h ad I R) → va_S A s.heap H locs → lv_has ls 2 [(0, .ref h), (1, .int x1)] → W p l e (headSpec wsX2_frame ({ frames := 1, cells := 0, slots := 0, locals := 30 } : Room)).room s m ([.ref h] : List Value).toArray below meth c H locs 0 0 (MQ below (va_Qv (fun (u : (Nat → Int32) × (Nat → Nat → Int32)) => post u.1 u.2) (wAt (dC, dI) vwCl [(cI, .int)] A (fun u : (Nat → Int32) × (Nat → Nat → Int32) => wd2 cI h ad u.1 u.2)) A) ([.ref h] : List Value).toArray s 0 0 A) (F0 m 38 ls [])) := by
    unfold zX2_frame
    intro x1 I R hq H locs ls hP hD hS hl
    refine lv_iload_n hx hb dX2_frame_38 rfl (lv_at hl 1 rfl) ?_
    refine lv_aload_n hx hb dX2_frame_39 rfl (lv_at hl 0 rfl) ?_
    refine va_get (D := (dC, dI)) (ci := 2) (v := .int (I 3)) (C := RX2) (T := TX2) (N := 11) hx hb hts nX2_frame_X2 hown hK hP 0 rfl rfl 3 (by decide) (hts _ mX2_frame_f37) (fun _ h9 => h9) rfl dX2_frame_40 ?_
    refine lv_icmp_ge (tgt := 175) hx hb dX2_frame_43 (by decide) (fun hc => ?_) (fun hc => ?_)
    · have hq := hq.1 hc
      exact w_vret (wf := fun u : (Nat → Int32) × (Nat → Nat → Int32) => wd2 cI h ad u.1 u.2) (u := (I, R)) hx hb hr hK hP hD hS hq dX2_frame_175 hlocks
    · have hq := hq.2 hc
      refine lv_aload_n hx hb dX2_frame_46 rfl (lv_at hl 0 rfl) ?_
      refine va_get (D := (dC, dI)) (ci := 2) (v := .int (I 8)) (C := RX2) (T := TX2) (N := 11) hx hb hts nX2_frame_X2 hown hK hP 0 rfl rfl 8 (by decide) (hts _ mX2_frame_f40) (fun _ h9 => h9) rfl dX2_frame_47 ?_
      refine lv_iload_n hx hb dX2_frame_50 rfl (lv_at hl 1 rfl) ?_
      refine lv_ishr hx hb dX2_frame_51 ?_
      refine lv_iconst (v := (1 : Int32)) hx hb dX2_frame_52 (by decide) ?_
      refine lv_iand hx hb dX2_frame_53 ?_
      refine lv_if_eq (tgt := 169) hx hb dX2_frame_54 (by decide) (fun hc => ?_) (fun hc => ?_)
      · have hq := hq.1 hc
        refine lv_iinc (v := x1 + (1 : Int32)) (lv' := [(1, .int (x1 + (1 : Int32))), (0, .ref h)]) hx hb dX2_frame_169 hl (k := 1) rfl rfl (by decide) rfl (fun ls hl => ?_)
        refine lv_goto (tgt := 38) hx hb dX2_frame_172 (by decide) ?_
        exact hq _ _ ls hP hD hS (lv_sub hl [1, 0] rfl)
      · have hq := hq.2 hc
        refine lv_aload_n hx hb dX2_frame_57 rfl (lv_at hl 0 rfl) ?_
        refine va_get (D := (dC, dI)) (ci := 2) (v := .ref (ad 10)) (C := RX2) (T := TX2) (N := 11) hx hb hts nX2_frame_X2 hown hK hP 0 rfl rfl 10 (by decide) (hts _ mX2_frame_f24) (fun _ h9 => h9) rfl dX2_frame_58 ?_
        refine lv_iconst (v := (0 : Int32)) hx hb dX2_frame_61 (by decide) ?_
        refine lv_aload_n hx hb dX2_frame_62 rfl (lv_at hl 0 rfl) ?_
        refine va_get (D := (dC, dI)) (ci := 2) (v := .ref (ad 10)) (C := RX2) (T := TX2) (N := 11) hx hb hts nX2_frame_X2 hown hK hP 0 rfl rfl 10 (by decide) (hts _ mX2_frame_f24) (fun _ h9 => h9) rfl dX2_frame_63 ?_
        refine lv_iconst (v := (0 : Int32)) hx hb dX2_frame_66 (by decide) ?_
        refine va_ialdk (f := R 10) hx hb hK hP 5 0 rfl rfl 0 (by decide) (by unfold vp_in; decide) dX2_frame_67 ?_
        refine lv_aload_n hx hb dX2_frame_68 rfl (lv_at hl 0 rfl) ?_
        refine va_get (D := (dC, dI)) (ci := 2) (v := .ref (ad 5)) (C := RX2) (T := TX2) (N := 11) hx hb hts nX2_frame_X2 hown hK hP 0 rfl rfl 5 (by decide) (hts _ mX2_frame_f15) (fun _ h9 => h9) rfl dX2_frame_69 ?_
        refine lv_iload_n hx hb dX2_frame_72 rfl (lv_at hl 1 rfl) ?_
        obtain ⟨hi_1, hq⟩ := hq
        refine va_iald (f := R 5) hx hb hK hP 2 0 rfl rfl hi_1 dX2_frame_73 ?_
        refine lv_aload_n hx hb dX2_frame_74 rfl (lv_at hl 0 rfl) ?_
        refine va_get (D := (dC, dI)) (ci := 2) (v := .ref (ad 7)) (C := RX2) (T := TX2) (N := 11) hx hb hts nX2_frame_X2 hown hK hP 0 rfl rfl 7 (by decide) (hts _ mX2_frame_f21) (fun _ h9 => h9) rfl dX2_frame_75 ?_
        refine lv_iload_n hx hb dX2_frame_78 rfl (lv_at hl 1 rfl) ?_
        refine va_iald (f := R 7) hx hb hK hP 4 0 rfl rfl hi_1 dX2_frame_79 ?_
        refine lv_isub hx hb dX2_frame_80 ?_
        refine va_mmin hx hb (hml.trans hl.1.symm) hown (hts _ mX2_frame_m53) (hts _ mX2_frame_s53) (hts _ mX2_frame_iMath) (hts _ mX2_frame_k53) (Nat.le_of_ble_eq_true rfl) (Nat.le_of_ble_eq_true rfl) (Nat.zero_le _) (Nat.zero_le _) dX2_frame_81 ?_
        refine lv_topi (fun v_2 ev_2 => ?_)
        have hq := hq v_2 ev_2
        refine va_iastk (f := R 10) hx hb hK hP hD hS 5 0 rfl rfl 0 (by decide) (by unfold vp_in; decide) dX2_frame_84 (fun H locs hP hD hS => ?_)
        have hP : va_P (dC, dI) vwCl (wd2 cI h ad I (va_up R 10 (upd (R 10) 0 v_2))) H := hP
        have hD : va_D A (wd2 cI h ad I (va_up R 10 (upd (R 10) 0 v_2))) := hD
        refine lv_aload_n hx hb dX2_frame_85 rfl (lv_at hl 0 rfl) ?_
        refine va_get (D := (dC, dI)) (ci := 2) (v := .ref (ad 10)) (C := RX2) (T := TX2) (N := 11) hx hb hts nX2_frame_X2 hown hK hP 0 rfl rfl 10 (by decide) (hts _ mX2_frame_f24) (fun _ h9 => h9) rfl dX2_frame_86 ?_
        refine lv_iconst (v := (1 : Int32)) hx hb dX2_frame_89 (by decide) ?_
        refine lv_aload_n hx hb dX2_frame_90 rfl (lv_at hl 0 rfl) ?_
        refine va_get (D := (dC, dI)) (ci := 2) (v := .ref (ad 10)) (C := RX2) (T := TX2) (N := 11) hx hb hts nX2_frame_X2 hown hK hP 0 rfl rfl 10 (by decide) (hts _ mX2_frame_f24) (fun _ h9 => h9) rfl dX2_frame_91 ?_
        refine lv_iconst (v := (1 : Int32)) hx hb dX2_frame_94 (by decide) ?_
        refine va_ialdk (f := upd (R 10) 0 v_2) hx hb hK hP 5 0 rfl rfl 1 (by decide) (by unfold vp_in; decide) dX2_frame_95 ?_
        refine lv_topi (fun v_3 ev_3 => ?_)
        have hq := hq v_3 ev_3
        refine lv_aload_n hx hb dX2_frame_96 rfl (lv_at hl 0 rfl) ?_
        refine va_get (D := (dC, dI)) (ci := 2) (v := .ref (ad 6)) (C := RX2) (T := TX2) (N := 11) hx hb hts nX2_frame_X2 hown hK hP 0 rfl rfl 6 (by decide) (hts _ mX2_frame_f18) (fun _ h9 => h9) rfl dX2_frame_97 ?_
        refine lv_iload_n hx hb dX2_frame_100 rfl (lv_at hl 1 rfl) ?_
        refine va_iald (f := R 6) hx hb hK hP 3 0 rfl rfl hi_1 dX2_frame_101 ?_
        refine lv_aload_n hx hb dX2_frame_102 rfl (lv_at hl 0 rfl) ?_
        refine va_get (D := (dC, dI)) (ci := 2) (v := .ref (ad 7)) (C := RX2) (T := TX2) (N := 11) hx hb hts nX2_frame_X2 hown hK hP 0 rfl rfl 7 (by decide) (hts _ mX2_frame_f21) (fun _ h9 => h9) rfl dX2_frame_103 ?_
        refine lv_iload_n hx hb dX2_frame_106 rfl (lv_at hl 1 rfl) ?_
        refine va_iald (f := R 7) hx hb hK hP 4 0 rfl rfl hi_1 dX2_frame_107 ?_
        refine lv_isub hx hb dX2_frame_108 ?_
        refine va_mmin hx hb (hml.trans hl.1.symm) hown (hts _ mX2_frame_m53) (hts _ mX2_frame_s53) (hts _ mX2_frame_iMath) (hts _ mX2_frame_k53) (Nat.le_of_ble_eq_true rfl) (Nat.le_of_ble_eq_true rfl) (Nat.zero_le _) (Nat.zero_le _) dX2_frame_109 ?_
        refine lv_topi (fun v_4 ev_4 => ?_)
        have hq := hq v_4 ev_4
        refine va_iastk (f := upd (R 10) 0 v_2) hx hb hK hP hD hS 5 0 rfl rfl 1 (by decide) (by unfold vp_in; decide) dX2_frame_112 (fun H locs hP hD hS => ?_)
        have hP : va_P (dC, dI) vwCl (wd2 cI h ad I (va_up R 10 (upd (upd (R 10) 0 v_2) 1 v_4))) H := hP
        have hD : va_D A (wd2 cI h ad I (va_up R 10 (upd (upd (R 10) 0 v_2) 1 v_4))) := hD
        refine lv_aload_n hx hb dX2_frame_113 rfl (lv_at hl 0 rfl) ?_
        refine va_get (D := (dC, dI)) (ci := 2) (v := .ref (ad 10)) (C := RX2) (T := TX2) (N := 11) hx hb hts nX2_frame_X2 hown hK hP 0 rfl rfl 10 (by decide) (hts _ mX2_frame_f24) (fun _ h9 => h9) rfl dX2_frame_114 ?_
        refine lv_iconst (v := (2 : Int32)) hx hb dX2_frame_117 (by decide) ?_
        refine lv_aload_n hx hb dX2_frame_118 rfl (lv_at hl 0 rfl) ?_
        refine va_get (D := (dC, dI)) (ci := 2) (v := .ref (ad 10)) (C := RX2) (T := TX2) (N := 11) hx hb hts nX2_frame_X2 hown hK hP 0 rfl rfl 10 (by decide) (hts _ mX2_frame_f24) (fun _ h9 => h9) rfl dX2_frame_119 ?_
        refine lv_iconst (v := (2 : Int32)) hx hb dX2_frame_122 (by decide) ?_
        refine va_ialdk (f := upd (upd (R 10) 0 v_2) 1 v_4) hx hb hK hP 5 0 rfl rfl 2 (by decide) (by unfold vp_in; decide) dX2_frame_123 ?_
        refine lv_topi (fun v_5 ev_5 => ?_)
        have hq := hq v_5 ev_5
        refine lv_aload_n hx hb dX2_frame_124 rfl (lv_at hl 0 rfl) ?_
        refine va_get (D := (dC, dI)) (ci := 2) (v := .ref (ad 5)) (C := RX2) (T := TX2) (N := 11) hx hb hts nX2_frame_X2 hown hK hP 0 rfl rfl 5 (by decide) (hts _ mX2_frame_f15) (fun _ h9 => h9) rfl dX2_frame_125 ?_
        refine lv_iload_n hx hb dX2_frame_128 rfl (lv_at hl 1 rfl) ?_
        refine va_iald (f := R 5) hx hb hK hP 2 0 rfl rfl hi_1 dX2_frame_129 ?_
        refine lv_aload_n hx hb dX2_frame_130 rfl (lv_at hl 0 rfl) ?_
        refine va_get (D := (dC, dI)) (ci := 2) (v := .ref (ad 7)) (C := RX2) (T := TX2) (N := 11) hx hb hts nX2_frame_X2 hown hK hP 0 rfl rfl 7 (by decide) (hts _ mX2_frame_f21) (fun _ h9 => h9) rfl dX2_frame_131 ?_
        refine lv_iload_n hx hb dX2_frame_134 rfl (lv_at hl 1 rfl) ?_
        refine va_iald (f := R 7) hx hb hK hP 4 0 rfl rfl hi_1 dX2_frame_135 ?_
        refine lv_iadd hx hb dX2_frame_136 ?_
        refine va_mmax hx hb (hml.trans hl.1.symm) hown (hts _ mX2_frame_m59) (hts _ mX2_frame_s59) (hts _ mX2_frame_iMath) (hts _ mX2_frame_k59) (Nat.le_of_ble_eq_true rfl) (Nat.le_of_ble_eq_true rfl) (Nat.zero_le _) (Nat.zero_le _) dX2_frame_137 ?_
        refine lv_topi (fun v_6 ev_6 => ?_)
        have hq := hq v_6 ev_6
        refine va_iastk (f := upd (upd (R 10) 0 v_2) 1 v_4) hx hb hK hP hD hS 5 0 rfl rfl 2 (by decide) (by unfold vp_in; decide) dX2_frame_140 (fun H locs hP hD hS => ?_)
        have hP : va_P (dC, dI) vwCl (wd2 cI h ad I (va_up R 10 (upd (upd (upd (R 10) 0 v_2) 1 v_4) 2 v_6))) H := hP
        have hD : va_D A (wd2 cI h ad I (va_up R 10 (upd (upd (upd (R 10) 0 v_2) 1 v_4) 2 v_6))) := hD
        refine lv_aload_n hx hb dX2_frame_141 rfl (lv_at hl 0 rfl) ?_
        refine va_get (D := (dC, dI)) (ci := 2) (v := .ref (ad 10)) (C := RX2) (T := TX2) (N := 11) hx hb hts nX2_frame_X2 hown hK hP 0 rfl rfl 10 (by decide) (hts _ mX2_frame_f24) (fun _ h9 => h9) rfl dX2_frame_142 ?_
        refine lv_iconst (v := (3 : Int32)) hx hb dX2_frame_145 (by decide) ?_
        refine lv_aload_n hx hb dX2_frame_146 rfl (lv_at hl 0 rfl) ?_
        refine va_get (D := (dC, dI)) (ci := 2) (v := .ref (ad 10)) (C := RX2) (T := TX2) (N := 11) hx hb hts nX2_frame_X2 hown hK hP 0 rfl rfl 10 (by decide) (hts _ mX2_frame_f24) (fun _ h9 => h9) rfl dX2_frame_147 ?_
        refine lv_iconst (v := (3 : Int32)) hx hb dX2_frame_150 (by decide) ?_
        refine va_ialdk (f := upd (upd (upd (R 10) 0 v_2) 1 v_4) 2 v_6) hx hb hK hP 5 0 rfl rfl 3 (by decide) (by unfold vp_in; decide) dX2_frame_151 ?_
        refine lv_topi (fun v_7 ev_7 => ?_)
        have hq := hq v_7 ev_7
        refine lv_aload_n hx hb dX2_frame_152 rfl (lv_at hl 0 rfl) ?_
        refine va_get (D := (dC, dI)) (ci := 2) (v := .ref (ad 6)) (C := RX2) (T := TX2) (N := 11) hx hb hts nX2_frame_X2 hown hK hP 0 rfl rfl 6 (by decide) (hts _ mX2_frame_f18) (fun _ h9 => h9) rfl dX2_frame_153 ?_
        refine lv_iload_n hx hb dX2_frame_156 rfl (lv_at hl 1 rfl) ?_
        refine va_iald (f := R 6) hx hb hK hP 3 0 rfl rfl hi_1 dX2_frame_157 ?_
        refine lv_aload_n hx hb dX2_frame_158 rfl (lv_at hl 0 rfl) ?_
        refine va_get (D := (dC, dI)) (ci := 2) (v := .ref (ad 7)) (C := RX2) (T := TX2) (N := 11) hx hb hts nX2_frame_X2 hown hK hP 0 rfl rfl 7 (by decide) (hts _ mX2_frame_f21) (fun _ h9 => h9) rfl dX2_frame_159 ?_
        refine lv_iload_n hx hb dX2_frame_162 rfl (lv_at hl 1 rfl) ?_
        refine va_iald (f := R 7) hx hb hK hP 4 0 rfl rfl hi_1 dX2_frame_163 ?_
        refine lv_iadd hx hb dX2_frame_164 ?_
        refine va_mmax hx hb (hml.trans hl.1.symm) hown (hts _ mX2_frame_m59) (hts _ mX2_frame_s59) (hts _ mX2_frame_iMath) (hts _ mX2_frame_k59) (Nat.le_of_ble_eq_true rfl) (Nat.le_of_ble_eq_true rfl) (Nat.zero_le _) (Nat.zero_le _) dX2_frame_165 ?_
        refine lv_topi (fun v_8 ev_8 => ?_)
        have hq := hq v_8 ev_8
        refine va_iastk (f := upd (upd (upd (R 10) 0 v_2) 1 v_4) 2 v_6) hx hb hK hP hD hS 5 0 rfl rfl 3 (by decide) (by unfold vp_in; decide) dX2_frame_168 (fun H locs hP hD hS => ?_)
        have hP : va_P (dC, dI) vwCl (wd2 cI h ad I (va_up R 10 (upd (upd (upd (upd (R 10) 0 v_2) 1 v_4) 2 v_6) 3 v_8))) H := hP
        have hD : va_D A (wd2 cI h ad I (va_up R 10 (upd (upd (upd (upd (R 10) 0 v_2) 1 v_4) 2 v_6) 3 v_8))) := hD
        refine lv_iinc (v := x1 + (1 : Int32)) (lv' := [(1, .int (x1 + (1 : Int32))), (0, .ref h)]) hx hb dX2_frame_169 hl (k := 1) rfl rfl (by decide) rfl (fun ls hl => ?_)
        refine lv_goto (tgt := 38) hx hb dX2_frame_172 (by decide) ?_
        exact hq _ _ ls hP hD hS (lv_sub hl [1, 0] rfl)
  have hl := lv_entry ([.ref h]) (n := 2) (Nat.le_of_ble_eq_true rfl)
  rw [lg_entry_eq]
  generalize (lg_sl ([.ref h]) ++ List.replicate (2 - (lg_sl ([.ref h])).length) Slot.unset).toArray = ls at hl ⊢
  have hl : lv_has ls 2 [(0, .ref h)] := hl
  refine lv_aload_n hx hb dX2_frame_0 rfl (lv_at hl 0 rfl) ?_
  refine va_get (D := (dC, dI)) (ci := 2) (v := .ref (ad 10)) (C := RX2) (T := TX2) (N := 11) hx hb hts nX2_frame_X2 hown hK hP 0 rfl rfl 10 (by decide) (hts _ mX2_frame_f24) (fun _ h9 => h9) rfl dX2_frame_1 ?_
  refine lv_iconst (v := (0 : Int32)) hx hb dX2_frame_4 (by decide) ?_
  refine lv_sipush (v := (1000 : Int32)) hx hb dX2_frame_5 (si_1000) ?_
  refine va_iastk (f := R 10) hx hb hK hP hD hS 5 0 rfl rfl 0 (by decide) (by unfold vp_in; decide) dX2_frame_8 (fun H locs hP hD hS => ?_)
  have hP : va_P (dC, dI) vwCl (wd2 cI h ad I (va_up R 10 (upd (R 10) 0 (1000 : Int32)))) H := hP
  have hD : va_D A (wd2 cI h ad I (va_up R 10 (upd (R 10) 0 (1000 : Int32)))) := hD
  refine lv_aload_n hx hb dX2_frame_9 rfl (lv_at hl 0 rfl) ?_
  refine va_get (D := (dC, dI)) (ci := 2) (v := .ref (ad 10)) (C := RX2) (T := TX2) (N := 11) hx hb hts nX2_frame_X2 hown hK hP 0 rfl rfl 10 (by decide) (hts _ mX2_frame_f24) (fun _ h9 => h9) rfl dX2_frame_10 ?_
  refine lv_iconst (v := (1 : Int32)) hx hb dX2_frame_13 (by decide) ?_
  refine lv_sipush (v := (1000 : Int32)) hx hb dX2_frame_14 (si_1000) ?_
  refine va_iastk (f := upd (R 10) 0 (1000 : Int32)) hx hb hK hP hD hS 5 0 rfl rfl 1 (by decide) (by unfold vp_in; decide) dX2_frame_17 (fun H locs hP hD hS => ?_)
  have hP : va_P (dC, dI) vwCl (wd2 cI h ad I (va_up R 10 (upd (upd (R 10) 0 (1000 : Int32)) 1 (1000 : Int32)))) H := hP
  have hD : va_D A (wd2 cI h ad I (va_up R 10 (upd (upd (R 10) 0 (1000 : Int32)) 1 (1000 : Int32)))) := hD
  refine lv_aload_n hx hb dX2_frame_18 rfl (lv_at hl 0 rfl) ?_
  refine va_get (D := (dC, dI)) (ci := 2) (v := .ref (ad 10)) (C := RX2) (T := TX2) (N := 11) hx hb hts nX2_frame_X2 hown hK hP 0 rfl rfl 10 (by decide) (hts _ mX2_frame_f24) (fun _ h9 => h9) rfl dX2_frame_19 ?_
  refine lv_iconst (v := (2 : Int32)) hx hb dX2_frame_22 (by decide) ?_
  refine lv_sipush (v := (-1000 : Int32)) hx hb dX2_frame_23 (si_m1000) ?_
  refine va_iastk (f := upd (upd (R 10) 0 (1000 : Int32)) 1 (1000 : Int32)) hx hb hK hP hD hS 5 0 rfl rfl 2 (by decide) (by unfold vp_in; decide) dX2_frame_26 (fun H locs hP hD hS => ?_)
  have hP : va_P (dC, dI) vwCl (wd2 cI h ad I (va_up R 10 (upd (upd (upd (R 10) 0 (1000 : Int32)) 1 (1000 : Int32)) 2 (-1000 : Int32)))) H := hP
  have hD : va_D A (wd2 cI h ad I (va_up R 10 (upd (upd (upd (R 10) 0 (1000 : Int32)) 1 (1000 : Int32)) 2 (-1000 : Int32)))) := hD
  refine lv_aload_n hx hb dX2_frame_27 rfl (lv_at hl 0 rfl) ?_
  refine va_get (D := (dC, dI)) (ci := 2) (v := .ref (ad 10)) (C := RX2) (T := TX2) (N := 11) hx hb hts nX2_frame_X2 hown hK hP 0 rfl rfl 10 (by decide) (hts _ mX2_frame_f24) (fun _ h9 => h9) rfl dX2_frame_28 ?_
  refine lv_iconst (v := (3 : Int32)) hx hb dX2_frame_31 (by decide) ?_
  refine lv_sipush (v := (-1000 : Int32)) hx hb dX2_frame_32 (si_m1000) ?_
  refine va_iastk (f := upd (upd (upd (R 10) 0 (1000 : Int32)) 1 (1000 : Int32)) 2 (-1000 : Int32)) hx hb hK hP hD hS 5 0 rfl rfl 3 (by decide) (by unfold vp_in; decide) dX2_frame_35 (fun H locs hP hD hS => ?_)
  have hP : va_P (dC, dI) vwCl (wd2 cI h ad I (va_up R 10 (upd (upd (upd (upd (R 10) 0 (1000 : Int32)) 1 (1000 : Int32)) 2 (-1000 : Int32)) 3 (-1000 : Int32)))) H := hP
  have hD : va_D A (wd2 cI h ad I (va_up R 10 (upd (upd (upd (upd (R 10) 0 (1000 : Int32)) 1 (1000 : Int32)) 2 (-1000 : Int32)) 3 (-1000 : Int32)))) := hD
  refine lv_iconst (v := (0 : Int32)) hx hb dX2_frame_36 (by decide) ?_
  refine lv_istore_n (lv' := [(1, .int (0 : Int32)), (0, .ref h)]) hx hb dX2_frame_37 rfl hl (by decide) rfl (fun ls hl => ?_)
  exact hq _ hZ _ _ ls hP hD hS (lv_sub hl [1, 0] rfl)
