def qX4_may (post : Int32 → Prop) (p1 : Int32) (p2 : Int32) (I : Nat → Int32) (R : Nat → Nat → Int32) : Prop := vp_in (((8 : Int32) * p1) + p2) 112 ∧ (vp_in (R 7 (((8 : Int32) * p1) + p2).toNatClampNeg) 16 ∧ (vp_in p1 14 ∧ (((¬ (((R 1 (R 7 (((8 : Int32) * p1) + p2).toNatClampNeg).toNatClampNeg) >>> ((R 3 p1.toNatClampNeg) &&& 31)) &&& (1 : Int32)) = (1 : Int32)) → (post (0 : Int32))) ∧ (((((R 1 (R 7 (((8 : Int32) * p1) + p2).toNatClampNeg).toNatClampNeg) >>> ((R 3 p1.toNatClampNeg) &&& 31)) &&& (1 : Int32)) = (1 : Int32)) → (post (1 : Int32))))))
theorem mX4_may_f13 : Cond.fieldLink RX4 13 "YearBookModel" "consent" "[I" ∈ wsX4_may := by decide +kernel
theorem nX4_may_X4 : ∀ w ∈ u_ws RX4 TX4 27, w ∈ wsX4_may := by decide +kernel
theorem mX4_may_f28 : Cond.fieldLink RX4 28 "YearBookModel" "who" "[I" ∈ wsX4_may := by decide +kernel
theorem mX4_may_f16 : Cond.fieldLink RX4 16 "YearBookModel" "kind" "[I" ∈ wsX4_may := by decide +kernel
set_option maxHeartbeats 4000000 in
set_option maxRecDepth 100000 in
theorem tX4_may (l : Launch) (dC : Nat → ClassId) (dI : Nat → Nat → Nat) (cI : ClassId) (h : Nat) (ad : Nat → Nat)  (sz : Nat) (post : Int32 → Prop) (p1 : Int32) (p2 : Int32) (I : Nat → Int32) (R : Nat → Nat → Int32) (hq : qX4_may post p1 p2 I R) : Met l yX4_may wsX4_may ({ frames := 0, cells := 0, slots := 0, locals := 0 } : Room) (va_Pc [.ref h, .int p1, .int p2] (wPre (dC, dI) vwCl [(cI, .int)] (wd4 cI h ad I R) sz)) (va_Qi (fun r (_ : Unit) => post r ) (wAt (dC, dI) vwCl [(cI, .int)] (va_A (wd4 cI h ad I R) sz) (fun _ : Unit => wd4 cI h ad I R)) (va_A (wd4 cI h ad I R) sz)) 0 0 (va_A (wd4 cI h ad I R) sz) := by
  unfold qX4_may at hq
  refine Met.ofW (cc := cX4_may) (maxL := 3) (ret := (some .boolean)) (by decide) rfl ?_
  intro p e s m args below meth c s₁ B hml hv
  obtain ⟨rfl, hsz, hP, hK, hD0⟩ := hv
  have hx := B.exec
  have hb := B.bytes
  have hr := B.returns
  have hts := atoms_spec (ws := wsX4_may) B.pre
  have hown : s.vm.findClass RX4 = some m.cls := findClass_of_methodNamed B.named
  have hlocks := B.notSynchronized
  subst hsz
  have hD := hD0.self (sz := s.heap.size)
  generalize hAe : va_A (wd4 cI h ad I R) s.heap.size = A at hD ⊢
  have hA : ∀ q : Nat, s.heap.size ≤ q → A q := fun q h => by rw [← hAe]; exact Or.inr h
  have hS : va_S A s.heap s.heap [] := va_S.rf
  have hl := lv_entry ([.ref h, .int p1, .int p2]) (n := 3) (Nat.le_of_ble_eq_true rfl)
  rw [lg_entry_eq]
  generalize (lg_sl ([.ref h, .int p1, .int p2]) ++ List.replicate (3 - (lg_sl ([.ref h, .int p1, .int p2])).length) Slot.unset).toArray = ls at hl ⊢
  have hl : lv_has ls 3 [(0, .ref h), (1, .int p1), (2, .int p2)] := hl
  refine lv_aload_n hx hb dX4_may_0 rfl (lv_at hl 0 rfl) ?_
  refine va_get (D := (dC, dI)) (ci := 4) (v := .ref (ad 1)) (C := RX4) (T := TX4) (N := 27) hx hb hts nX4_may_X4 hown hK hP 0 rfl rfl 1 (by decide) (hts _ mX4_may_f13) (fun _ h9 => h9) rfl dX4_may_1 ?_
  refine lv_aload_n hx hb dX4_may_4 rfl (lv_at hl 0 rfl) ?_
  refine va_get (D := (dC, dI)) (ci := 4) (v := .ref (ad 7)) (C := RX4) (T := TX4) (N := 27) hx hb hts nX4_may_X4 hown hK hP 0 rfl rfl 7 (by decide) (hts _ mX4_may_f28) (fun _ h9 => h9) rfl dX4_may_5 ?_
  refine lv_bipush (v := (8 : Int32)) hx hb dX4_may_8 (by decide) ?_
  refine lv_iload_n hx hb dX4_may_10 rfl (lv_at hl 1 rfl) ?_
  refine lv_imul hx hb dX4_may_11 ?_
  refine lv_iload_n hx hb dX4_may_12 rfl (lv_at hl 2 rfl) ?_
  refine lv_iadd hx hb dX4_may_13 ?_
  obtain ⟨hi_1, hq⟩ := hq
  refine va_iald (f := R 7) hx hb hK hP 7 0 rfl rfl hi_1 dX4_may_14 ?_
  obtain ⟨hi_2, hq⟩ := hq
  refine va_iald (f := R 1) hx hb hK hP 2 0 rfl rfl hi_2 dX4_may_15 ?_
  refine lv_aload_n hx hb dX4_may_16 rfl (lv_at hl 0 rfl) ?_
  refine va_get (D := (dC, dI)) (ci := 4) (v := .ref (ad 3)) (C := RX4) (T := TX4) (N := 27) hx hb hts nX4_may_X4 hown hK hP 0 rfl rfl 3 (by decide) (hts _ mX4_may_f16) (fun _ h9 => h9) rfl dX4_may_17 ?_
  refine lv_iload_n hx hb dX4_may_20 rfl (lv_at hl 1 rfl) ?_
  obtain ⟨hi_3, hq⟩ := hq
  refine va_iald (f := R 3) hx hb hK hP 3 0 rfl rfl hi_3 dX4_may_21 ?_
  refine lv_ishr hx hb dX4_may_22 ?_
  refine lv_iconst (v := (1 : Int32)) hx hb dX4_may_23 (by decide) ?_
  refine lv_iand hx hb dX4_may_24 ?_
  refine lv_iconst (v := (1 : Int32)) hx hb dX4_may_25 (by decide) ?_
  refine lv_icmp_ne (tgt := 33) hx hb dX4_may_26 (by decide) (fun hc => ?_) (fun hc => ?_)
  · have hq := hq.1 hc
    refine lv_iconst (v := (0 : Int32)) hx hb dX4_may_33 (by decide) ?_
    exact w_zret (post := fun r (_ : Unit) => post r ) (wf := fun _ : Unit => wd4 cI h ad I R) (u := ()) hx hb hr rfl hK hP hD hS hq dX4_may_34 hlocks
  · have hq := hq.2 hc
    refine lv_iconst (v := (1 : Int32)) hx hb dX4_may_29 (by decide) ?_
    refine lv_goto (tgt := 34) hx hb dX4_may_30 (by decide) ?_
    exact w_zret (post := fun r (_ : Unit) => post r ) (wf := fun _ : Unit => wd4 cI h ad I R) (u := ()) hx hb hr rfl hK hP hD hS hq dX4_may_34 hlocks
def zX4_cutOf (post : Int32 → (Nat → Int32) → (Nat → Nat → Int32) → Prop) (p1 : Int32) (X4 : Int32 → Int32 → (Nat → Int32) → (Nat → Nat → Int32) → Prop) (X133 : Int32 → Int32 → Int32 → Int32 → Int32 → Int32 → (Nat → Int32) → (Nat → Nat → Int32) → Prop) (X165 : Int32 → Int32 → Int32 → Int32 → Int32 → (Nat → Int32) → (Nat → Nat → Int32) → Prop) (X197 : Int32 → Int32 → Int32 → Int32 → (Nat → Int32) → (Nat → Nat → Int32) → Prop) (X229 : Int32 → Int32 → (Nat → Int32) → (Nat → Nat → Int32) → Prop) : Prop :=
  (∀ (x2 : Int32) (x3 : Int32) (I : Nat → Int32) (R : Nat → Nat → Int32), (vp_in p1 14 ∧ ((((R 6 p1.toNatClampNeg) ≤ x3) → (narrow .boolean (.int x2) = .int x2 ∧ post x2 I R)) ∧ ((¬ (R 6 p1.toNatClampNeg) ≤ x3) → (∃ Pc_2 : Int32 → Prop, qX4_may Pc_2 p1 x3 I R ∧ (∀ (rc_2 : Int32), Pc_2 rc_2 → (((¬ rc_2 = 0) → (∀ x4_3 : Int32, x4_3 = ((8 : Int32) * p1) + x3 → (vp_in x4_3 112 ∧ (∀ x5_5 : Int32, x5_5 = (R 8 x4_3.toNatClampNeg) - (R 10 x4_3.toNatClampNeg) → (∀ x6_6 : Int32, x6_6 = (R 9 x4_3.toNatClampNeg) - (R 10 x4_3.toNatClampNeg) → (∀ x7_7 : Int32, x7_7 = (R 8 x4_3.toNatClampNeg) + (R 10 x4_3.toNatClampNeg) → (∀ x8_8 : Int32, x8_8 = (R 9 x4_3.toNatClampNeg) + (R 10 x4_3.toNatClampNeg) → (((x2 = 0) → (X133 x2 x3 x6_6 x7_7 x8_8 x5_5 I R)) ∧ ((¬ x2 = 0) → ((((R 20 0) ≤ x5_5) → (X133 x2 x3 x6_6 x7_7 x8_8 (R 20 0) I R)) ∧ ((¬ (R 20 0) ≤ x5_5) → (X133 x2 x3 x6_6 x7_7 x8_8 x5_5 I R)))))))))))) ∧ ((rc_2 = 0) → (X4 x2 (x3 + (1 : Int32)) I R)))))))) → X4 x2 x3 I R) ∧
  (∀ (x2 : Int32) (x3 : Int32) (x6 : Int32) (x7 : Int32) (x8 : Int32) (k0 : Int32) (I : Nat → Int32) (R : Nat → Nat → Int32), (((x2 = 0) → (X165 x2 x3 x7 x8 x6 I (va_up R 20 (upd (R 20) 0 k0)))) ∧ ((¬ x2 = 0) → (∀ v_9 : Int32, v_9 = (upd (R 20) 0 k0) 1 → (((v_9 ≤ x6) → (∀ v_10 : Int32, v_10 = (upd (R 20) 0 k0) 1 → (X165 x2 x3 x7 x8 v_10 I (va_up R 20 (upd (R 20) 0 k0))))) ∧ ((¬ v_9 ≤ x6) → (X165 x2 x3 x7 x8 x6 I (va_up R 20 (upd (R 20) 0 k0)))))))) → X133 x2 x3 x6 x7 x8 k0 I R) ∧
  (∀ (x2 : Int32) (x3 : Int32) (x7 : Int32) (x8 : Int32) (k0 : Int32) (I : Nat → Int32) (R : Nat → Nat → Int32), (((x2 = 0) → (X197 x2 x3 x8 x7 I (va_up R 20 (upd (R 20) 1 k0)))) ∧ ((¬ x2 = 0) → (∀ v_11 : Int32, v_11 = (upd (R 20) 1 k0) 2 → (((x7 ≤ v_11) → (∀ v_12 : Int32, v_12 = (upd (R 20) 1 k0) 2 → (X197 x2 x3 x8 v_12 I (va_up R 20 (upd (R 20) 1 k0))))) ∧ ((¬ x7 ≤ v_11) → (X197 x2 x3 x8 x7 I (va_up R 20 (upd (R 20) 1 k0)))))))) → X165 x2 x3 x7 x8 k0 I R) ∧
  (∀ (x2 : Int32) (x3 : Int32) (x8 : Int32) (k0 : Int32) (I : Nat → Int32) (R : Nat → Nat → Int32), (((x2 = 0) → (X229 x3 x8 I (va_up R 20 (upd (R 20) 2 k0)))) ∧ ((¬ x2 = 0) → (∀ v_13 : Int32, v_13 = (upd (R 20) 2 k0) 3 → (((x8 ≤ v_13) → (∀ v_14 : Int32, v_14 = (upd (R 20) 2 k0) 3 → (X229 x3 v_14 I (va_up R 20 (upd (R 20) 2 k0))))) ∧ ((¬ x8 ≤ v_13) → (X229 x3 x8 I (va_up R 20 (upd (R 20) 2 k0)))))))) → X197 x2 x3 x8 k0 I R) ∧
  (∀ (x3 : Int32) (k0 : Int32) (I : Nat → Int32) (R : Nat → Nat → Int32), (X4 (1 : Int32) (x3 + (1 : Int32)) I (va_up R 20 (upd (R 20) 3 k0))) → X229 x3 k0 I R)
def qX4_cutOf_4 (post : Int32 → (Nat → Int32) → (Nat → Nat → Int32) → Prop) (p1 : Int32) (x2 : Int32) (x3 : Int32) (I : Nat → Int32) (R : Nat → Nat → Int32) : Prop := ∀ (X4 : Int32 → Int32 → (Nat → Int32) → (Nat → Nat → Int32) → Prop) (X133 : Int32 → Int32 → Int32 → Int32 → Int32 → Int32 → (Nat → Int32) → (Nat → Nat → Int32) → Prop) (X165 : Int32 → Int32 → Int32 → Int32 → Int32 → (Nat → Int32) → (Nat → Nat → Int32) → Prop) (X197 : Int32 → Int32 → Int32 → Int32 → (Nat → Int32) → (Nat → Nat → Int32) → Prop) (X229 : Int32 → Int32 → (Nat → Int32) → (Nat → Nat → Int32) → Prop), zX4_cutOf post p1 X4 X133 X165 X197 X229 → X4 x2 x3 I R
def qX4_cutOf_133 (post : Int32 → (Nat → Int32) → (Nat → Nat → Int32) → Prop) (p1 : Int32) (x2 : Int32) (x3 : Int32) (x6 : Int32) (x7 : Int32) (x8 : Int32) (k0 : Int32) (I : Nat → Int32) (R : Nat → Nat → Int32) : Prop := ∀ (X4 : Int32 → Int32 → (Nat → Int32) → (Nat → Nat → Int32) → Prop) (X133 : Int32 → Int32 → Int32 → Int32 → Int32 → Int32 → (Nat → Int32) → (Nat → Nat → Int32) → Prop) (X165 : Int32 → Int32 → Int32 → Int32 → Int32 → (Nat → Int32) → (Nat → Nat → Int32) → Prop) (X197 : Int32 → Int32 → Int32 → Int32 → (Nat → Int32) → (Nat → Nat → Int32) → Prop) (X229 : Int32 → Int32 → (Nat → Int32) → (Nat → Nat → Int32) → Prop), zX4_cutOf post p1 X4 X133 X165 X197 X229 → X133 x2 x3 x6 x7 x8 k0 I R
def qX4_cutOf_165 (post : Int32 → (Nat → Int32) → (Nat → Nat → Int32) → Prop) (p1 : Int32) (x2 : Int32) (x3 : Int32) (x7 : Int32) (x8 : Int32) (k0 : Int32) (I : Nat → Int32) (R : Nat → Nat → Int32) : Prop := ∀ (X4 : Int32 → Int32 → (Nat → Int32) → (Nat → Nat → Int32) → Prop) (X133 : Int32 → Int32 → Int32 → Int32 → Int32 → Int32 → (Nat → Int32) → (Nat → Nat → Int32) → Prop) (X165 : Int32 → Int32 → Int32 → Int32 → Int32 → (Nat → Int32) → (Nat → Nat → Int32) → Prop) (X197 : Int32 → Int32 → Int32 → Int32 → (Nat → Int32) → (Nat → Nat → Int32) → Prop) (X229 : Int32 → Int32 → (Nat → Int32) → (Nat → Nat → Int32) → Prop), zX4_cutOf post p1 X4 X133 X165 X197 X229 → X165 x2 x3 x7 x8 k0 I R
def qX4_cutOf_197 (post : Int32 → (Nat → Int32) → (Nat → Nat → Int32) → Prop) (p1 : Int32) (x2 : Int32) (x3 : Int32) (x8 : Int32) (k0 : Int32) (I : Nat → Int32) (R : Nat → Nat → Int32) : Prop := ∀ (X4 : Int32 → Int32 → (Nat → Int32) → (Nat → Nat → Int32) → Prop) (X133 : Int32 → Int32 → Int32 → Int32 → Int32 → Int32 → (Nat → Int32) → (Nat → Nat → Int32) → Prop) (X165 : Int32 → Int32 → Int32 → Int32 → Int32 → (Nat → Int32) → (Nat → Nat → Int32) → Prop) (X197 : Int32 → Int32 → Int32 → Int32 → (Nat → Int32) → (Nat → Nat → Int32) → Prop) (X229 : Int32 → Int32 → (Nat → Int32) → (Nat → Nat → Int32) → Prop), zX4_cutOf post p1 X4 X133 X165 X197 X229 → X197 x2 x3 x8 k0 I R
def qX4_cutOf_229 (post : Int32 → (Nat → Int32) → (Nat → Nat → Int32) → Prop) (p1 : Int32) (x3 : Int32) (k0 : Int32) (I : Nat → Int32) (R : Nat → Nat → Int32) : Prop := ∀ (X4 : Int32 → Int32 → (Nat → Int32) → (Nat → Nat → Int32) → Prop) (X133 : Int32 → Int32 → Int32 → Int32 → Int32 → Int32 → (Nat → Int32) → (Nat → Nat → Int32) → Prop) (X165 : Int32 → Int32 → Int32 → Int32 → Int32 → (Nat → Int32) → (Nat → Nat → Int32) → Prop) (X197 : Int32 → Int32 → Int32 → Int32 → (Nat → Int32) → (Nat → Nat → Int32) → Prop) (X229 : Int32 → Int32 → (Nat → Int32) → (Nat → Nat → Int32) → Prop), zX4_cutOf post p1 X4 X133 X165 X197 X229 → X229 x3 k0 I R
theorem kX4_cutOf_4 {post : Int32 → (Nat → Int32) → (Nat → Nat → Int32) → Prop} {p1 : Int32} {x2 : Int32} {x3 : Int32} {I : Nat → Int32} {R : Nat → Nat → Int32} (h : vp_in p1 14 ∧ ((((R 6 p1.toNatClampNeg) ≤ x3) → (narrow .boolean (.int x2) = .int x2 ∧ post x2 I R)) ∧ ((¬ (R 6 p1.toNatClampNeg) ≤ x3) → (∃ Pc_2 : Int32 → Prop, qX4_may Pc_2 p1 x3 I R ∧ (∀ (rc_2 : Int32), Pc_2 rc_2 → (((¬ rc_2 = 0) → (∀ x4_3 : Int32, x4_3 = ((8 : Int32) * p1) + x3 → (vp_in x4_3 112 ∧ (∀ x5_5 : Int32, x5_5 = (R 8 x4_3.toNatClampNeg) - (R 10 x4_3.toNatClampNeg) → (∀ x6_6 : Int32, x6_6 = (R 9 x4_3.toNatClampNeg) - (R 10 x4_3.toNatClampNeg) → (∀ x7_7 : Int32, x7_7 = (R 8 x4_3.toNatClampNeg) + (R 10 x4_3.toNatClampNeg) → (∀ x8_8 : Int32, x8_8 = (R 9 x4_3.toNatClampNeg) + (R 10 x4_3.toNatClampNeg) → (((x2 = 0) → (qX4_cutOf_133 post p1 x2 x3 x6_6 x7_7 x8_8 x5_5 I R)) ∧ ((¬ x2 = 0) → ((((R 20 0) ≤ x5_5) → (qX4_cutOf_133 post p1 x2 x3 x6_6 x7_7 x8_8 (R 20 0) I R)) ∧ ((¬ (R 20 0) ≤ x5_5) → (qX4_cutOf_133 post p1 x2 x3 x6_6 x7_7 x8_8 x5_5 I R)))))))))))) ∧ ((rc_2 = 0) → (qX4_cutOf_4 post p1 x2 (x3 + (1 : Int32)) I R)))))))) : qX4_cutOf_4 post p1 x2 x3 I R := by
  intro Z4 Z133 Z165 Z197 Z229 hcl
  refine hcl.1 x2 x3 I R ?_
  refine ⟨h.1, ?_⟩
  have h := h.2
  refine ⟨fun c => ?_, fun c => ?_⟩
  · have h := h.1 c
    exact h
  · have h := h.2 c
    obtain ⟨P, h1, h2⟩ := h
    refine ⟨P, h1, fun b0 hp => ?_⟩
    have h := h2 b0 hp
    refine ⟨fun c => ?_, fun c => ?_⟩
    · have h := h.1 c
      intro x e
      have h := h x e
      refine ⟨h.1, ?_⟩
      have h := h.2
      intro x e
      have h := h x e
      intro x e
      have h := h x e
      intro x e
      have h := h x e
      intro x e
      have h := h x e
      refine ⟨fun c => ?_, fun c => ?_⟩
      · have h := h.1 c
        exact h _ _ _ _ _ hcl
      · have h := h.2 c
        refine ⟨fun c => ?_, fun c => ?_⟩
        · have h := h.1 c
          exact h _ _ _ _ _ hcl
        · have h := h.2 c
          exact h _ _ _ _ _ hcl
    · have h := h.2 c
      exact h _ _ _ _ _ hcl
theorem kX4_cutOf_133 {post : Int32 → (Nat → Int32) → (Nat → Nat → Int32) → Prop} {p1 : Int32} {x2 : Int32} {x3 : Int32} {x6 : Int32} {x7 : Int32} {x8 : Int32} {k0 : Int32} {I : Nat → Int32} {R : Nat → Nat → Int32} (h : ((x2 = 0) → (qX4_cutOf_165 post p1 x2 x3 x7 x8 x6 I (va_up R 20 (upd (R 20) 0 k0)))) ∧ ((¬ x2 = 0) → (∀ v_9 : Int32, v_9 = (upd (R 20) 0 k0) 1 → (((v_9 ≤ x6) → (∀ v_10 : Int32, v_10 = (upd (R 20) 0 k0) 1 → (qX4_cutOf_165 post p1 x2 x3 x7 x8 v_10 I (va_up R 20 (upd (R 20) 0 k0))))) ∧ ((¬ v_9 ≤ x6) → (qX4_cutOf_165 post p1 x2 x3 x7 x8 x6 I (va_up R 20 (upd (R 20) 0 k0)))))))) : qX4_cutOf_133 post p1 x2 x3 x6 x7 x8 k0 I R := by
  intro Z4 Z133 Z165 Z197 Z229 hcl
  refine hcl.2.1 x2 x3 x6 x7 x8 k0 I R ?_
  refine ⟨fun c => ?_, fun c => ?_⟩
  · have h := h.1 c
    exact h _ _ _ _ _ hcl
  · have h := h.2 c
    intro x e
    have h := h x e
    refine ⟨fun c => ?_, fun c => ?_⟩
    · have h := h.1 c
      intro x e
      have h := h x e
      exact h _ _ _ _ _ hcl
    · have h := h.2 c
      exact h _ _ _ _ _ hcl
theorem kX4_cutOf_165 {post : Int32 → (Nat → Int32) → (Nat → Nat → Int32) → Prop} {p1 : Int32} {x2 : Int32} {x3 : Int32} {x7 : Int32} {x8 : Int32} {k0 : Int32} {I : Nat → Int32} {R : Nat → Nat → Int32} (h : ((x2 = 0) → (qX4_cutOf_197 post p1 x2 x3 x8 x7 I (va_up R 20 (upd (R 20) 1 k0)))) ∧ ((¬ x2 = 0) → (∀ v_11 : Int32, v_11 = (upd (R 20) 1 k0) 2 → (((x7 ≤ v_11) → (∀ v_12 : Int32, v_12 = (upd (R 20) 1 k0) 2 → (qX4_cutOf_197 post p1 x2 x3 x8 v_12 I (va_up R 20 (upd (R 20) 1 k0))))) ∧ ((¬ x7 ≤ v_11) → (qX4_cutOf_197 post p1 x2 x3 x8 x7 I (va_up R 20 (upd (R 20) 1 k0)))))))) : qX4_cutOf_165 post p1 x2 x3 x7 x8 k0 I R := by
  intro Z4 Z133 Z165 Z197 Z229 hcl
  refine hcl.2.2.1 x2 x3 x7 x8 k0 I R ?_
  refine ⟨fun c => ?_, fun c => ?_⟩
  · have h := h.1 c
    exact h _ _ _ _ _ hcl
  · have h := h.2 c
    intro x e
    have h := h x e
    refine ⟨fun c => ?_, fun c => ?_⟩
    · have h := h.1 c
      intro x e
      have h := h x e
      exact h _ _ _ _ _ hcl
    · have h := h.2 c
      exact h _ _ _ _ _ hcl
theorem kX4_cutOf_197 {post : Int32 → (Nat → Int32) → (Nat → Nat → Int32) → Prop} {p1 : Int32} {x2 : Int32} {x3 : Int32} {x8 : Int32} {k0 : Int32} {I : Nat → Int32} {R : Nat → Nat → Int32} (h : ((x2 = 0) → (qX4_cutOf_229 post p1 x3 x8 I (va_up R 20 (upd (R 20) 2 k0)))) ∧ ((¬ x2 = 0) → (∀ v_13 : Int32, v_13 = (upd (R 20) 2 k0) 3 → (((x8 ≤ v_13) → (∀ v_14 : Int32, v_14 = (upd (R 20) 2 k0) 3 → (qX4_cutOf_229 post p1 x3 v_14 I (va_up R 20 (upd (R 20) 2 k0))))) ∧ ((¬ x8 ≤ v_13) → (qX4_cutOf_229 post p1 x3 x8 I (va_up R 20 (upd (R 20) 2 k0)))))))) : qX4_cutOf_197 post p1 x2 x3 x8 k0 I R := by
  intro Z4 Z133 Z165 Z197 Z229 hcl
  refine hcl.2.2.2.1 x2 x3 x8 k0 I R ?_
  refine ⟨fun c => ?_, fun c => ?_⟩
  · have h := h.1 c
    exact h _ _ _ _ _ hcl
  · have h := h.2 c
    intro x e
    have h := h x e
    refine ⟨fun c => ?_, fun c => ?_⟩
    · have h := h.1 c
      intro x e
      have h := h x e
      exact h _ _ _ _ _ hcl
    · have h := h.2 c
      exact h _ _ _ _ _ hcl
theorem kX4_cutOf_229 {post : Int32 → (Nat → Int32) → (Nat → Nat → Int32) → Prop} {p1 : Int32} {x3 : Int32} {k0 : Int32} {I : Nat → Int32} {R : Nat → Nat → Int32} (h : qX4_cutOf_4 post p1 (1 : Int32) (x3 + (1 : Int32)) I (va_up R 20 (upd (R 20) 3 k0))) : qX4_cutOf_229 post p1 x3 k0 I R := by
  intro Z4 Z133 Z165 Z197 Z229 hcl
  refine hcl.2.2.2.2 x3 k0 I R ?_
  exact h _ _ _ _ _ hcl
def qX4_cutOf (post : Int32 → (Nat → Int32) → (Nat → Nat → Int32) → Prop) (p1 : Int32) (I : Nat → Int32) (R : Nat → Nat → Int32) : Prop := qX4_cutOf_4 post p1 (0 : Int32) (0 : Int32) I R
theorem mX4_cutOf_f25 : Cond.fieldLink RX4 25 "YearBookModel" "faces" "[I" ∈ wsX4_cutOf := by decide +kernel
theorem nX4_cutOf_X4 : ∀ w ∈ u_ws RX4 TX4 27, w ∈ wsX4_cutOf := by decide +kernel
theorem mX4_cutOf_f31 : Cond.fieldLink RX4 31 "YearBookModel" "x" "[I" ∈ wsX4_cutOf := by decide +kernel
theorem mX4_cutOf_f37 : Cond.fieldLink RX4 37 "YearBookModel" "\x72" "[I" ∈ wsX4_cutOf := by decide +kernel
theorem mX4_cutOf_f34 : Cond.fieldLink RX4 34 "YearBookModel" "y" "[I" ∈ wsX4_cutOf := by decide +kernel
theorem mX4_cutOf_f53 : Cond.fieldLink RX4 53 "YearBookModel" "cut" "[I" ∈ wsX4_cutOf := by decide +kernel
set_option maxHeartbeats 4000000 in
set_option maxRecDepth 100000 in
theorem tX4_cutOf (l : Launch) (dC : Nat → ClassId) (dI : Nat → Nat → Nat) (cI : ClassId) (h : Nat) (ad : Nat → Nat)  (sz : Nat) (post : Int32 → (Nat → Int32) → (Nat → Nat → Int32) → Prop) (p1 : Int32) (I : Nat → Int32) (R : Nat → Nat → Int32) (hq : qX4_cutOf post p1 I R) : Met l yX4_cutOf wsX4_cutOf ({ frames := 1, cells := 0, slots := 0, locals := 22 } : Room) (va_Pc [.ref h, .int p1] (wPre (dC, dI) vwCl [(cI, .int)] (wd4 cI h ad I R) sz)) (va_Qi (fun r (u : (Nat → Int32) × (Nat → Nat → Int32)) => post r u.1 u.2) (wAt (dC, dI) vwCl [(cI, .int)] (va_A (wd4 cI h ad I R) sz) (fun u : (Nat → Int32) × (Nat → Nat → Int32) => wd4 cI h ad u.1 u.2)) (va_A (wd4 cI h ad I R) sz)) 0 0 (va_A (wd4 cI h ad I R) sz) := by
  unfold qX4_cutOf at hq
  refine Met.ofW (cc := cX4_cutOf) (maxL := 9) (ret := (some .boolean)) (by decide) rfl ?_
  intro p e s m args below meth c s₁ B hml hv
  obtain ⟨rfl, hsz, hP, hK, hD0⟩ := hv
  have hx := B.exec
  have hb := B.bytes
  have hr := B.returns
  have hts := atoms_spec (ws := wsX4_cutOf) B.pre
  have hown : s.vm.findClass RX4 = some m.cls := findClass_of_methodNamed B.named
  have hlocks := B.notSynchronized
  subst hsz
  have hD := hD0.self (sz := s.heap.size)
  generalize hAe : va_A (wd4 cI h ad I R) s.heap.size = A at hD ⊢
  have hA : ∀ q : Nat, s.heap.size ≤ q → A q := fun q h => by rw [← hAe]; exact Or.inr h
  have hS : va_S A s.heap s.heap [] := va_S.rf
  have hZ : zX4_cutOf post p1
      (fun (x2 : Int32) (x3 : Int32) (I : Nat → Int32) (R : Nat → Nat → Int32) => ∀ (H : Heap) (locs : List Loc) (ls : Array Slot), va_P (dC, dI) vwCl (wd4 cI h ad I R) H → va_D A (wd4 cI h ad I R) → va_S A s.heap H locs → lv_has ls 9 [(0, .ref h), (1, .int p1), (2, .int x2), (3, .int x3)] → W p l e (headSpec wsX4_cutOf ({ frames := 1, cells := 0, slots := 0, locals := 22 } : Room)).room s m ([.ref h, .int p1] : List Value).toArray below meth c H locs 0 0 (MQ below (va_Qi (fun r (u : (Nat → Int32) × (Nat → Nat → Int32)) => post r u.1 u.2) (wAt (dC, dI) vwCl [(cI, .int)] A (fun u : (Nat → Int32) × (Nat → Nat → Int32) => wd4 cI h ad u.1 u.2)) A) ([.ref h, .int p1] : List Value).toArray s 0 0 A) (F0 m 4 ls []))
      (fun (x2 : Int32) (x3 : Int32) (x6 : Int32) (x7 : Int32) (x8 : Int32) (k0 : Int32) (I : Nat → Int32) (R : Nat → Nat → Int32) => ∀ (H : Heap) (locs : List Loc) (ls : Array Slot), va_P (dC, dI) vwCl (wd4 cI h ad I R) H → va_D A (wd4 cI h ad I R) → va_S A s.heap H locs → lv_has ls 9 [(0, .ref h), (1, .int p1), (2, .int x2), (3, .int x3), (6, .int x6), (7, .int x7), (8, .int x8)] → W p l e (headSpec wsX4_cutOf ({ frames := 1, cells := 0, slots := 0, locals := 22 } : Room)).room s m ([.ref h, .int p1] : List Value).toArray below meth c H locs 0 0 (MQ below (va_Qi (fun r (u : (Nat → Int32) × (Nat → Nat → Int32)) => post r u.1 u.2) (wAt (dC, dI) vwCl [(cI, .int)] A (fun u : (Nat → Int32) × (Nat → Nat → Int32) => wd4 cI h ad u.1 u.2)) A) ([.ref h, .int p1] : List Value).toArray s 0 0 A) (F0 m 133 ls [.int k0, .int (0 : Int32), .ref (ad 20)]))
      (fun (x2 : Int32) (x3 : Int32) (x7 : Int32) (x8 : Int32) (k0 : Int32) (I : Nat → Int32) (R : Nat → Nat → Int32) => ∀ (H : Heap) (locs : List Loc) (ls : Array Slot), va_P (dC, dI) vwCl (wd4 cI h ad I R) H → va_D A (wd4 cI h ad I R) → va_S A s.heap H locs → lv_has ls 9 [(0, .ref h), (1, .int p1), (2, .int x2), (3, .int x3), (7, .int x7), (8, .int x8)] → W p l e (headSpec wsX4_cutOf ({ frames := 1, cells := 0, slots := 0, locals := 22 } : Room)).room s m ([.ref h, .int p1] : List Value).toArray below meth c H locs 0 0 (MQ below (va_Qi (fun r (u : (Nat → Int32) × (Nat → Nat → Int32)) => post r u.1 u.2) (wAt (dC, dI) vwCl [(cI, .int)] A (fun u : (Nat → Int32) × (Nat → Nat → Int32) => wd4 cI h ad u.1 u.2)) A) ([.ref h, .int p1] : List Value).toArray s 0 0 A) (F0 m 165 ls [.int k0, .int (1 : Int32), .ref (ad 20)]))
      (fun (x2 : Int32) (x3 : Int32) (x8 : Int32) (k0 : Int32) (I : Nat → Int32) (R : Nat → Nat → Int32) => ∀ (H : Heap) (locs : List Loc) (ls : Array Slot), va_P (dC, dI) vwCl (wd4 cI h ad I R) H → va_D A (wd4 cI h ad I R) → va_S A s.heap H locs → lv_has ls 9 [(0, .ref h), (1, .int p1), (2, .int x2), (3, .int x3), (8, .int x8)] → W p l e (headSpec wsX4_cutOf ({ frames := 1, cells := 0, slots := 0, locals := 22 } : Room)).room s m ([.ref h, .int p1] : List Value).toArray below meth c H locs 0 0 (MQ below (va_Qi (fun r (u : (Nat → Int32) × (Nat → Nat → Int32)) => post r u.1 u.2) (wAt (dC, dI) vwCl [(cI, .int)] A (fun u : (Nat → Int32) × (Nat → Nat → Int32) => wd4 cI h ad u.1 u.2)) A) ([.ref h, .int p1] : List Value).toArray s 0 0 A) (F0 m 197 ls [.int k0, .int (2 : Int32), .ref (ad 20)]))
      (fun (x3 : Int32) (k0 : Int32) (I : Nat → Int32) (R : Nat → Nat → Int32) => ∀ (H : Heap) (locs : List Loc) (ls : Array Slot), va_P (dC, dI) vwCl (wd4 cI h ad I R) H → va_D A (wd4 cI h ad I R) → va_S A s.heap H locs → lv_has ls 9 [(0, .ref h), (1, .int p1), (3, .int x3)] → W p l e (headSpec wsX4_cutOf ({ frames := 1, cells := 0, slots := 0, locals := 22 } : Room)).room s m ([.ref h, .int p1] : List Value).toArray below meth c H locs 0 0 (MQ below (va_Qi (fun r (u : (Nat → Int32) × (Nat → Nat → Int32)) => post r u.1 u.2) (wAt (dC, dI) vwCl [(cI, .int)] A (fun u : (Nat → Int32) × (Nat → Nat → Int32) => wd4 cI h ad u.1 u.2)) A) ([.ref h, .int p1] : List Value).toArray s 0 0 A) (F0 m 229 ls [.int k0, .int (3 : Int32), .ref (ad 20)])) := by
    refine ⟨?_, ?_, ?_, ?_, ?_⟩
    · intro x2 x3 I R hq H locs ls hP hD hS hl
      refine lv_iload_n hx hb dX4_cutOf_4 rfl (lv_at hl 3 rfl) ?_
      refine lv_aload_n hx hb dX4_cutOf_5 rfl (lv_at hl 0 rfl) ?_
      refine va_get (D := (dC, dI)) (ci := 4) (v := .ref (ad 6)) (C := RX4) (T := TX4) (N := 27) hx hb hts nX4_cutOf_X4 hown hK hP 0 rfl rfl 6 (by decide) (hts _ mX4_cutOf_f25) (fun _ h9 => h9) rfl dX4_cutOf_6 ?_
      refine lv_iload_n hx hb dX4_cutOf_9 rfl (lv_at hl 1 rfl) ?_
      obtain ⟨hi_1, hq⟩ := hq
      refine va_iald (f := R 6) hx hb hK hP 6 0 rfl rfl hi_1 dX4_cutOf_10 ?_
      refine lv_icmp_ge (tgt := 238) hx hb dX4_cutOf_11 (by decide) (fun hc => ?_) (fun hc => ?_)
      · have hq := hq.1 hc
        refine lv_iload_n hx hb dX4_cutOf_238 rfl (lv_at hl 2 rfl) ?_
        exact w_zret (post := fun r (u : (Nat → Int32) × (Nat → Nat → Int32)) => post r u.1 u.2) (wf := fun u : (Nat → Int32) × (Nat → Nat → Int32) => wd4 cI h ad u.1 u.2) (u := (I, R)) hx hb hr hq.1 hK hP hD hS hq.2 dX4_cutOf_239 hlocks
      · have hq := hq.2 hc
        refine lv_aload_n hx hb dX4_cutOf_14 rfl (lv_at hl 0 rfl) ?_
        refine lv_iload_n hx hb dX4_cutOf_15 rfl (lv_at hl 1 rfl) ?_
        refine lv_iload_n hx hb dX4_cutOf_16 rfl (lv_at hl 3 rfl) ?_
        obtain ⟨Pc_2, hc, hq⟩ := hq
        refine w_calli (wf := fun _ : Unit => wd4 cI h ad I R) (va_runV (As := [.int p1, .int x3]) (rest := []) ⟨hx, hb, hml, hown, hts⟩ (tX4_may l dC dI cI h ad _ Pc_2 p1 x3 I R hc) (cwV 2 hts gX4_cutOf_X4_may rfl rfl rfl (by decide +kernel) ⟨Nat.le_of_ble_eq_true rfl, Nat.le_of_ble_eq_true rfl⟩) (wPreV hK hP hD (ci := 4) (q0 := 0) rfl rfl) rfl rfl hl.1 rfl (lv_room (Nat.le_of_ble_eq_true rfl)) dX4_cutOf_17 ⟨Nat.le_of_ble_eq_true rfl, Nat.le_of_ble_eq_true rfl⟩) hD hS hA (fun rc_2 u H locs hp hP hD hS => ?_)
        have hq := hq rc_2 hp
        have hP : va_P (dC, dI) vwCl (wd4 cI h ad I R) H := hP
        have hD : va_D A (wd4 cI h ad I R) := hD
        refine lv_if_ne (tgt := 26) hx hb dX4_cutOf_20 (by decide) (fun hc => ?_) (fun hc => ?_)
        · have hq := hq.1 hc
          refine lv_bipush (v := (8 : Int32)) hx hb dX4_cutOf_26 (by decide) ?_
          refine lv_iload_n hx hb dX4_cutOf_28 rfl (lv_at hl 1 rfl) ?_
          refine lv_imul hx hb dX4_cutOf_29 ?_
          refine lv_iload_n hx hb dX4_cutOf_30 rfl (lv_at hl 3 rfl) ?_
          refine lv_iadd hx hb dX4_cutOf_31 ?_
          refine lv_topi (fun x4_3 ex4_3 => ?_)
          have hq := hq x4_3 ex4_3
          refine lv_istore (lv' := [(4, .int x4_3), (0, .ref h), (1, .int p1), (2, .int x2), (3, .int x3)]) hx hb dX4_cutOf_32 hl (by decide) rfl (fun ls hl => ?_)
          refine lv_aload_n hx hb dX4_cutOf_34 rfl (lv_at hl 1 rfl) ?_
          refine va_get (D := (dC, dI)) (ci := 4) (v := .ref (ad 8)) (C := RX4) (T := TX4) (N := 27) hx hb hts nX4_cutOf_X4 hown hK hP 0 rfl rfl 8 (by decide) (hts _ mX4_cutOf_f31) (fun _ h9 => h9) rfl dX4_cutOf_35 ?_
          refine lv_iload hx hb dX4_cutOf_38 (lv_at hl 0 rfl) ?_
          obtain ⟨hi_4, hq⟩ := hq
          refine va_iald (f := R 8) hx hb hK hP 8 0 rfl rfl hi_4 dX4_cutOf_40 ?_
          refine lv_aload_n hx hb dX4_cutOf_41 rfl (lv_at hl 1 rfl) ?_
          refine va_get (D := (dC, dI)) (ci := 4) (v := .ref (ad 10)) (C := RX4) (T := TX4) (N := 27) hx hb hts nX4_cutOf_X4 hown hK hP 0 rfl rfl 10 (by decide) (hts _ mX4_cutOf_f37) (fun _ h9 => h9) rfl dX4_cutOf_42 ?_
          refine lv_iload hx hb dX4_cutOf_45 (lv_at hl 0 rfl) ?_
          refine va_iald (f := R 10) hx hb hK hP 10 0 rfl rfl hi_4 dX4_cutOf_47 ?_
          refine lv_isub hx hb dX4_cutOf_48 ?_
          refine lv_topi (fun x5_5 ex5_5 => ?_)
          have hq := hq x5_5 ex5_5
          refine lv_istore (lv' := [(5, .int x5_5), (4, .int x4_3), (0, .ref h), (1, .int p1), (2, .int x2), (3, .int x3)]) hx hb dX4_cutOf_49 hl (by decide) rfl (fun ls hl => ?_)
          refine lv_aload_n hx hb dX4_cutOf_51 rfl (lv_at hl 2 rfl) ?_
          refine va_get (D := (dC, dI)) (ci := 4) (v := .ref (ad 9)) (C := RX4) (T := TX4) (N := 27) hx hb hts nX4_cutOf_X4 hown hK hP 0 rfl rfl 9 (by decide) (hts _ mX4_cutOf_f34) (fun _ h9 => h9) rfl dX4_cutOf_52 ?_
          refine lv_iload hx hb dX4_cutOf_55 (lv_at hl 1 rfl) ?_
          refine va_iald (f := R 9) hx hb hK hP 9 0 rfl rfl hi_4 dX4_cutOf_57 ?_
          refine lv_aload_n hx hb dX4_cutOf_58 rfl (lv_at hl 2 rfl) ?_
          refine va_get (D := (dC, dI)) (ci := 4) (v := .ref (ad 10)) (C := RX4) (T := TX4) (N := 27) hx hb hts nX4_cutOf_X4 hown hK hP 0 rfl rfl 10 (by decide) (hts _ mX4_cutOf_f37) (fun _ h9 => h9) rfl dX4_cutOf_59 ?_
          refine lv_iload hx hb dX4_cutOf_62 (lv_at hl 1 rfl) ?_
          refine va_iald (f := R 10) hx hb hK hP 10 0 rfl rfl hi_4 dX4_cutOf_64 ?_
          refine lv_isub hx hb dX4_cutOf_65 ?_
          refine lv_topi (fun x6_6 ex6_6 => ?_)
          have hq := hq x6_6 ex6_6
          refine lv_istore (lv' := [(6, .int x6_6), (5, .int x5_5), (4, .int x4_3), (0, .ref h), (1, .int p1), (2, .int x2), (3, .int x3)]) hx hb dX4_cutOf_66 hl (by decide) rfl (fun ls hl => ?_)
          refine lv_aload_n hx hb dX4_cutOf_68 rfl (lv_at hl 3 rfl) ?_
          refine va_get (D := (dC, dI)) (ci := 4) (v := .ref (ad 8)) (C := RX4) (T := TX4) (N := 27) hx hb hts nX4_cutOf_X4 hown hK hP 0 rfl rfl 8 (by decide) (hts _ mX4_cutOf_f31) (fun _ h9 => h9) rfl dX4_cutOf_69 ?_
          refine lv_iload hx hb dX4_cutOf_72 (lv_at hl 2 rfl) ?_
          refine va_iald (f := R 8) hx hb hK hP 8 0 rfl rfl hi_4 dX4_cutOf_74 ?_
          refine lv_aload_n hx hb dX4_cutOf_75 rfl (lv_at hl 3 rfl) ?_
          refine va_get (D := (dC, dI)) (ci := 4) (v := .ref (ad 10)) (C := RX4) (T := TX4) (N := 27) hx hb hts nX4_cutOf_X4 hown hK hP 0 rfl rfl 10 (by decide) (hts _ mX4_cutOf_f37) (fun _ h9 => h9) rfl dX4_cutOf_76 ?_
          refine lv_iload hx hb dX4_cutOf_79 (lv_at hl 2 rfl) ?_
          refine va_iald (f := R 10) hx hb hK hP 10 0 rfl rfl hi_4 dX4_cutOf_81 ?_
          refine lv_iadd hx hb dX4_cutOf_82 ?_
          refine lv_topi (fun x7_7 ex7_7 => ?_)
          have hq := hq x7_7 ex7_7
          refine lv_istore (lv' := [(7, .int x7_7), (6, .int x6_6), (5, .int x5_5), (4, .int x4_3), (0, .ref h), (1, .int p1), (2, .int x2), (3, .int x3)]) hx hb dX4_cutOf_83 hl (by decide) rfl (fun ls hl => ?_)
          refine lv_aload_n hx hb dX4_cutOf_85 rfl (lv_at hl 4 rfl) ?_
          refine va_get (D := (dC, dI)) (ci := 4) (v := .ref (ad 9)) (C := RX4) (T := TX4) (N := 27) hx hb hts nX4_cutOf_X4 hown hK hP 0 rfl rfl 9 (by decide) (hts _ mX4_cutOf_f34) (fun _ h9 => h9) rfl dX4_cutOf_86 ?_
          refine lv_iload hx hb dX4_cutOf_89 (lv_at hl 3 rfl) ?_
          refine va_iald (f := R 9) hx hb hK hP 9 0 rfl rfl hi_4 dX4_cutOf_91 ?_
          refine lv_aload_n hx hb dX4_cutOf_92 rfl (lv_at hl 4 rfl) ?_
          refine va_get (D := (dC, dI)) (ci := 4) (v := .ref (ad 10)) (C := RX4) (T := TX4) (N := 27) hx hb hts nX4_cutOf_X4 hown hK hP 0 rfl rfl 10 (by decide) (hts _ mX4_cutOf_f37) (fun _ h9 => h9) rfl dX4_cutOf_93 ?_
          refine lv_iload hx hb dX4_cutOf_96 (lv_at hl 3 rfl) ?_
          refine va_iald (f := R 10) hx hb hK hP 10 0 rfl rfl hi_4 dX4_cutOf_98 ?_
          refine lv_iadd hx hb dX4_cutOf_99 ?_
          refine lv_topi (fun x8_8 ex8_8 => ?_)
          have hq := hq x8_8 ex8_8
          refine lv_istore (lv' := [(8, .int x8_8), (7, .int x7_7), (6, .int x6_6), (5, .int x5_5), (4, .int x4_3), (0, .ref h), (1, .int p1), (2, .int x2), (3, .int x3)]) hx hb dX4_cutOf_100 hl (by decide) rfl (fun ls hl => ?_)
          refine lv_aload_n hx hb dX4_cutOf_102 rfl (lv_at hl 5 rfl) ?_
          refine va_get (D := (dC, dI)) (ci := 4) (v := .ref (ad 20)) (C := RX4) (T := TX4) (N := 27) hx hb hts nX4_cutOf_X4 hown hK hP 0 rfl rfl 20 (by decide) (hts _ mX4_cutOf_f53) (fun _ h9 => h9) rfl dX4_cutOf_103 ?_
          refine lv_iconst (v := (0 : Int32)) hx hb dX4_cutOf_106 (by decide) ?_
          refine lv_iload_n hx hb dX4_cutOf_107 rfl (lv_at hl 7 rfl) ?_
          refine lv_if_eq (tgt := 122) hx hb dX4_cutOf_108 (by decide) (fun hc => ?_) (fun hc => ?_)
          · have hq := hq.1 hc
            refine lv_iload hx hb dX4_cutOf_122 (lv_at hl 3 rfl) ?_
            refine lv_goto (tgt := 133) hx hb dX4_cutOf_124 (by decide) ?_
            exact hq _ _ ls hP hD hS (lv_sub hl [5, 6, 7, 8, 2, 1, 0] rfl)
          · have hq := hq.2 hc
            refine lv_iload hx hb dX4_cutOf_111 (lv_at hl 3 rfl) ?_
            refine lv_aload_n hx hb dX4_cutOf_113 rfl (lv_at hl 5 rfl) ?_
            refine va_get (D := (dC, dI)) (ci := 4) (v := .ref (ad 20)) (C := RX4) (T := TX4) (N := 27) hx hb hts nX4_cutOf_X4 hown hK hP 0 rfl rfl 20 (by decide) (hts _ mX4_cutOf_f53) (fun _ h9 => h9) rfl dX4_cutOf_114 ?_
            refine lv_iconst (v := (0 : Int32)) hx hb dX4_cutOf_117 (by decide) ?_
            refine va_ialdk (f := R 20) hx hb hK hP 12 0 rfl rfl 0 (by decide) (by unfold vp_in; decide) dX4_cutOf_118 ?_
            refine lv_icmp_ge (tgt := 127) hx hb dX4_cutOf_119 (by decide) (fun hc => ?_) (fun hc => ?_)
            · have hq := hq.1 hc
              refine lv_aload_n hx hb dX4_cutOf_127 rfl (lv_at hl 5 rfl) ?_
              refine va_get (D := (dC, dI)) (ci := 4) (v := .ref (ad 20)) (C := RX4) (T := TX4) (N := 27) hx hb hts nX4_cutOf_X4 hown hK hP 0 rfl rfl 20 (by decide) (hts _ mX4_cutOf_f53) (fun _ h9 => h9) rfl dX4_cutOf_128 ?_
              refine lv_iconst (v := (0 : Int32)) hx hb dX4_cutOf_131 (by decide) ?_
              refine va_ialdk (f := R 20) hx hb hK hP 12 0 rfl rfl 0 (by decide) (by unfold vp_in; decide) dX4_cutOf_132 ?_
              exact hq _ _ ls hP hD hS (lv_sub hl [5, 6, 7, 8, 2, 1, 0] rfl)
            · have hq := hq.2 hc
              refine lv_iload hx hb dX4_cutOf_122 (lv_at hl 3 rfl) ?_
              refine lv_goto (tgt := 133) hx hb dX4_cutOf_124 (by decide) ?_
              exact hq _ _ ls hP hD hS (lv_sub hl [5, 6, 7, 8, 2, 1, 0] rfl)
        · have hq := hq.2 hc
          refine lv_goto (tgt := 232) hx hb dX4_cutOf_23 (by decide) ?_
          refine lv_iinc (v := x3 + (1 : Int32)) (lv' := [(3, .int (x3 + (1 : Int32))), (0, .ref h), (1, .int p1), (2, .int x2)]) hx hb dX4_cutOf_232 hl (k := 3) rfl rfl (by decide) rfl (fun ls hl => ?_)
          refine lv_goto (tgt := 4) hx hb dX4_cutOf_235 (by decide) ?_
          exact hq _ _ ls hP hD hS (lv_sub hl [1, 2, 3, 0] rfl)
    · intro x2 x3 x6 x7 x8 k0 I R hq H locs ls hP hD hS hl
      refine va_iastk (f := R 20) hx hb hK hP hD hS 12 0 rfl rfl 0 (by decide) (by unfold vp_in; decide) dX4_cutOf_133 (fun H locs hP hD hS => ?_)
      rw [wd4_R20] at hP hD
      refine lv_aload_n hx hb dX4_cutOf_134 rfl (lv_at hl 0 rfl) ?_
      refine va_get (D := (dC, dI)) (ci := 4) (v := .ref (ad 20)) (C := RX4) (T := TX4) (N := 27) hx hb hts nX4_cutOf_X4 hown hK hP 0 rfl rfl 20 (by decide) (hts _ mX4_cutOf_f53) (fun _ h9 => h9) rfl dX4_cutOf_135 ?_
      refine lv_iconst (v := (1 : Int32)) hx hb dX4_cutOf_138 (by decide) ?_
      refine lv_iload_n hx hb dX4_cutOf_139 rfl (lv_at hl 2 rfl) ?_
      refine lv_if_eq (tgt := 154) hx hb dX4_cutOf_140 (by decide) (fun hc => ?_) (fun hc => ?_)
      · have hq := hq.1 hc
        refine lv_iload hx hb dX4_cutOf_154 (lv_at hl 4 rfl) ?_
        refine lv_goto (tgt := 165) hx hb dX4_cutOf_156 (by decide) ?_
        exact hq _ _ ls hP hD hS (lv_sub hl [0, 1, 2, 3, 5, 6] rfl)
      · have hq := hq.2 hc
        refine lv_iload hx hb dX4_cutOf_143 (lv_at hl 4 rfl) ?_
        refine lv_aload_n hx hb dX4_cutOf_145 rfl (lv_at hl 0 rfl) ?_
        refine va_get (D := (dC, dI)) (ci := 4) (v := .ref (ad 20)) (C := RX4) (T := TX4) (N := 27) hx hb hts nX4_cutOf_X4 hown hK hP 0 rfl rfl 20 (by decide) (hts _ mX4_cutOf_f53) (fun _ h9 => h9) rfl dX4_cutOf_146 ?_
        refine lv_iconst (v := (1 : Int32)) hx hb dX4_cutOf_149 (by decide) ?_
        refine va_ialdk (f := upd (R 20) 0 k0) hx hb hK hP 12 0 rfl rfl 1 (by decide) (by unfold vp_in; decide) dX4_cutOf_150 ?_
        refine lv_topi (fun v_9 ev_9 => ?_)
        have hq := hq v_9 ev_9
        refine lv_icmp_ge (tgt := 159) hx hb dX4_cutOf_151 (by decide) (fun hc => ?_) (fun hc => ?_)
        · have hq := hq.1 hc
          refine lv_aload_n hx hb dX4_cutOf_159 rfl (lv_at hl 0 rfl) ?_
          refine va_get (D := (dC, dI)) (ci := 4) (v := .ref (ad 20)) (C := RX4) (T := TX4) (N := 27) hx hb hts nX4_cutOf_X4 hown hK hP 0 rfl rfl 20 (by decide) (hts _ mX4_cutOf_f53) (fun _ h9 => h9) rfl dX4_cutOf_160 ?_
          refine lv_iconst (v := (1 : Int32)) hx hb dX4_cutOf_163 (by decide) ?_
          refine va_ialdk (f := upd (R 20) 0 k0) hx hb hK hP 12 0 rfl rfl 1 (by decide) (by unfold vp_in; decide) dX4_cutOf_164 ?_
          refine lv_topi (fun v_10 ev_10 => ?_)
          have hq := hq v_10 ev_10
          exact hq _ _ ls hP hD hS (lv_sub hl [0, 1, 2, 3, 5, 6] rfl)
        · have hq := hq.2 hc
          refine lv_iload hx hb dX4_cutOf_154 (lv_at hl 4 rfl) ?_
          refine lv_goto (tgt := 165) hx hb dX4_cutOf_156 (by decide) ?_
          exact hq _ _ ls hP hD hS (lv_sub hl [0, 1, 2, 3, 5, 6] rfl)
    · intro x2 x3 x7 x8 k0 I R hq H locs ls hP hD hS hl
      refine va_iastk (f := R 20) hx hb hK hP hD hS 12 0 rfl rfl 1 (by decide) (by unfold vp_in; decide) dX4_cutOf_165 (fun H locs hP hD hS => ?_)
      rw [wd4_R20] at hP hD
      refine lv_aload_n hx hb dX4_cutOf_166 rfl (lv_at hl 0 rfl) ?_
      refine va_get (D := (dC, dI)) (ci := 4) (v := .ref (ad 20)) (C := RX4) (T := TX4) (N := 27) hx hb hts nX4_cutOf_X4 hown hK hP 0 rfl rfl 20 (by decide) (hts _ mX4_cutOf_f53) (fun _ h9 => h9) rfl dX4_cutOf_167 ?_
      refine lv_iconst (v := (2 : Int32)) hx hb dX4_cutOf_170 (by decide) ?_
      refine lv_iload_n hx hb dX4_cutOf_171 rfl (lv_at hl 2 rfl) ?_
      refine lv_if_eq (tgt := 186) hx hb dX4_cutOf_172 (by decide) (fun hc => ?_) (fun hc => ?_)
      · have hq := hq.1 hc
        refine lv_iload hx hb dX4_cutOf_186 (lv_at hl 4 rfl) ?_
        refine lv_goto (tgt := 197) hx hb dX4_cutOf_188 (by decide) ?_
        exact hq _ _ ls hP hD hS (lv_sub hl [0, 1, 2, 3, 5] rfl)
      · have hq := hq.2 hc
        refine lv_iload hx hb dX4_cutOf_175 (lv_at hl 4 rfl) ?_
        refine lv_aload_n hx hb dX4_cutOf_177 rfl (lv_at hl 0 rfl) ?_
        refine va_get (D := (dC, dI)) (ci := 4) (v := .ref (ad 20)) (C := RX4) (T := TX4) (N := 27) hx hb hts nX4_cutOf_X4 hown hK hP 0 rfl rfl 20 (by decide) (hts _ mX4_cutOf_f53) (fun _ h9 => h9) rfl dX4_cutOf_178 ?_
        refine lv_iconst (v := (2 : Int32)) hx hb dX4_cutOf_181 (by decide) ?_
        refine va_ialdk (f := upd (R 20) 1 k0) hx hb hK hP 12 0 rfl rfl 2 (by decide) (by unfold vp_in; decide) dX4_cutOf_182 ?_
        refine lv_topi (fun v_11 ev_11 => ?_)
        have hq := hq v_11 ev_11
        refine lv_icmp_le (tgt := 191) hx hb dX4_cutOf_183 (by decide) (fun hc => ?_) (fun hc => ?_)
        · have hq := hq.1 hc
          refine lv_aload_n hx hb dX4_cutOf_191 rfl (lv_at hl 0 rfl) ?_
          refine va_get (D := (dC, dI)) (ci := 4) (v := .ref (ad 20)) (C := RX4) (T := TX4) (N := 27) hx hb hts nX4_cutOf_X4 hown hK hP 0 rfl rfl 20 (by decide) (hts _ mX4_cutOf_f53) (fun _ h9 => h9) rfl dX4_cutOf_192 ?_
          refine lv_iconst (v := (2 : Int32)) hx hb dX4_cutOf_195 (by decide) ?_
          refine va_ialdk (f := upd (R 20) 1 k0) hx hb hK hP 12 0 rfl rfl 2 (by decide) (by unfold vp_in; decide) dX4_cutOf_196 ?_
          refine lv_topi (fun v_12 ev_12 => ?_)
          have hq := hq v_12 ev_12
          exact hq _ _ ls hP hD hS (lv_sub hl [0, 1, 2, 3, 5] rfl)
        · have hq := hq.2 hc
          refine lv_iload hx hb dX4_cutOf_186 (lv_at hl 4 rfl) ?_
          refine lv_goto (tgt := 197) hx hb dX4_cutOf_188 (by decide) ?_
          exact hq _ _ ls hP hD hS (lv_sub hl [0, 1, 2, 3, 5] rfl)
    · intro x2 x3 x8 k0 I R hq H locs ls hP hD hS hl
      refine va_iastk (f := R 20) hx hb hK hP hD hS 12 0 rfl rfl 2 (by decide) (by unfold vp_in; decide) dX4_cutOf_197 (fun H locs hP hD hS => ?_)
      rw [wd4_R20] at hP hD
      refine lv_aload_n hx hb dX4_cutOf_198 rfl (lv_at hl 0 rfl) ?_
      refine va_get (D := (dC, dI)) (ci := 4) (v := .ref (ad 20)) (C := RX4) (T := TX4) (N := 27) hx hb hts nX4_cutOf_X4 hown hK hP 0 rfl rfl 20 (by decide) (hts _ mX4_cutOf_f53) (fun _ h9 => h9) rfl dX4_cutOf_199 ?_
      refine lv_iconst (v := (3 : Int32)) hx hb dX4_cutOf_202 (by decide) ?_
      refine lv_iload_n hx hb dX4_cutOf_203 rfl (lv_at hl 2 rfl) ?_
      refine lv_if_eq (tgt := 218) hx hb dX4_cutOf_204 (by decide) (fun hc => ?_) (fun hc => ?_)
      · have hq := hq.1 hc
        refine lv_iload hx hb dX4_cutOf_218 (lv_at hl 4 rfl) ?_
        refine lv_goto (tgt := 229) hx hb dX4_cutOf_220 (by decide) ?_
        exact hq _ _ ls hP hD hS (lv_sub hl [0, 1, 3] rfl)
      · have hq := hq.2 hc
        refine lv_iload hx hb dX4_cutOf_207 (lv_at hl 4 rfl) ?_
        refine lv_aload_n hx hb dX4_cutOf_209 rfl (lv_at hl 0 rfl) ?_
        refine va_get (D := (dC, dI)) (ci := 4) (v := .ref (ad 20)) (C := RX4) (T := TX4) (N := 27) hx hb hts nX4_cutOf_X4 hown hK hP 0 rfl rfl 20 (by decide) (hts _ mX4_cutOf_f53) (fun _ h9 => h9) rfl dX4_cutOf_210 ?_
        refine lv_iconst (v := (3 : Int32)) hx hb dX4_cutOf_213 (by decide) ?_
        refine va_ialdk (f := upd (R 20) 2 k0) hx hb hK hP 12 0 rfl rfl 3 (by decide) (by unfold vp_in; decide) dX4_cutOf_214 ?_
        refine lv_topi (fun v_13 ev_13 => ?_)
        have hq := hq v_13 ev_13
        refine lv_icmp_le (tgt := 223) hx hb dX4_cutOf_215 (by decide) (fun hc => ?_) (fun hc => ?_)
        · have hq := hq.1 hc
          refine lv_aload_n hx hb dX4_cutOf_223 rfl (lv_at hl 0 rfl) ?_
          refine va_get (D := (dC, dI)) (ci := 4) (v := .ref (ad 20)) (C := RX4) (T := TX4) (N := 27) hx hb hts nX4_cutOf_X4 hown hK hP 0 rfl rfl 20 (by decide) (hts _ mX4_cutOf_f53) (fun _ h9 => h9) rfl dX4_cutOf_224 ?_
          refine lv_iconst (v := (3 : Int32)) hx hb dX4_cutOf_227 (by decide) ?_
          refine va_ialdk (f := upd (R 20) 2 k0) hx hb hK hP 12 0 rfl rfl 3 (by decide) (by unfold vp_in; decide) dX4_cutOf_228 ?_
          refine lv_topi (fun v_14 ev_14 => ?_)
          have hq := hq v_14 ev_14
          exact hq _ _ ls hP hD hS (lv_sub hl [0, 1, 3] rfl)
        · have hq := hq.2 hc
          refine lv_iload hx hb dX4_cutOf_218 (lv_at hl 4 rfl) ?_
          refine lv_goto (tgt := 229) hx hb dX4_cutOf_220 (by decide) ?_
          exact hq _ _ ls hP hD hS (lv_sub hl [0, 1, 3] rfl)
    · intro x3 k0 I R hq H locs ls hP hD hS hl
      refine va_iastk (f := R 20) hx hb hK hP hD hS 12 0 rfl rfl 3 (by decide) (by unfold vp_in; decide) dX4_cutOf_229 (fun H locs hP hD hS => ?_)
      rw [wd4_R20] at hP hD
      refine lv_iconst (v := (1 : Int32)) hx hb dX4_cutOf_230 (by decide) ?_
      refine lv_istore_n (lv' := [(2, .int (1 : Int32)), (0, .ref h), (1, .int p1), (3, .int x3)]) hx hb dX4_cutOf_231 rfl hl (by decide) rfl (fun ls hl => ?_)
      refine lv_iinc (v := x3 + (1 : Int32)) (lv' := [(3, .int (x3 + (1 : Int32))), (2, .int (1 : Int32)), (0, .ref h), (1, .int p1)]) hx hb dX4_cutOf_232 hl (k := 3) rfl rfl (by decide) rfl (fun ls hl => ?_)
      refine lv_goto (tgt := 4) hx hb dX4_cutOf_235 (by decide) ?_
      exact hq _ _ ls hP hD hS (lv_sub hl [2, 3, 1, 0] rfl)
  have hl := lv_entry ([.ref h, .int p1]) (n := 9) (Nat.le_of_ble_eq_true rfl)
  rw [lg_entry_eq]
  generalize (lg_sl ([.ref h, .int p1]) ++ List.replicate (9 - (lg_sl ([.ref h, .int p1])).length) Slot.unset).toArray = ls at hl ⊢
  have hl : lv_has ls 9 [(0, .ref h), (1, .int p1)] := hl
  refine lv_iconst (v := (0 : Int32)) hx hb dX4_cutOf_0 (by decide) ?_
  refine lv_istore_n (lv' := [(2, .int (0 : Int32)), (0, .ref h), (1, .int p1)]) hx hb dX4_cutOf_1 rfl hl (by decide) rfl (fun ls hl => ?_)
  refine lv_iconst (v := (0 : Int32)) hx hb dX4_cutOf_2 (by decide) ?_
  refine lv_istore_n (lv' := [(3, .int (0 : Int32)), (2, .int (0 : Int32)), (0, .ref h), (1, .int p1)]) hx hb dX4_cutOf_3 rfl hl (by decide) rfl (fun ls hl => ?_)
  exact hq _ _ _ _ _ hZ _ _ ls hP hD hS (lv_sub hl [2, 3, 1, 0] rfl)
def zX4_isGood (post : Int32 → (Nat → Int32) → (Nat → Nat → Int32) → Prop) (p1 : Int32) (X12 : Int32 → (Nat → Int32) → (Nat → Nat → Int32) → Prop) (X122 : Int32 → Int32 → (Nat → Int32) → (Nat → Nat → Int32) → Prop) : Prop :=
  (∀ (x2 : Int32) (I : Nat → Int32) (R : Nat → Nat → Int32), (vp_in p1 14 ∧ ((((R 6 p1.toNatClampNeg) ≤ x2) → (post (1 : Int32) I R)) ∧ ((¬ (R 6 p1.toNatClampNeg) ≤ x2) → (∀ x3_3 : Int32, x3_3 = ((8 : Int32) * p1) + x2 → (vp_in x3_3 112 ∧ (((((R 8 x3_3.toNatClampNeg) + (R 10 x3_3.toNatClampNeg)) < (R 20 0)) → (X122 x2 (1 : Int32) I R)) ∧ ((¬ ((R 8 x3_3.toNatClampNeg) + (R 10 x3_3.toNatClampNeg)) < (R 20 0)) → ((((R 20 2) < ((R 8 x3_3.toNatClampNeg) - (R 10 x3_3.toNatClampNeg))) → (X122 x2 (1 : Int32) I R)) ∧ ((¬ (R 20 2) < ((R 8 x3_3.toNatClampNeg) - (R 10 x3_3.toNatClampNeg))) → (((((R 9 x3_3.toNatClampNeg) + (R 10 x3_3.toNatClampNeg)) < (R 20 1)) → (X122 x2 (1 : Int32) I R)) ∧ ((¬ ((R 9 x3_3.toNatClampNeg) + (R 10 x3_3.toNatClampNeg)) < (R 20 1)) → (((((R 9 x3_3.toNatClampNeg) - (R 10 x3_3.toNatClampNeg)) ≤ (R 20 3)) → (X122 x2 (0 : Int32) I R)) ∧ ((¬ ((R 9 x3_3.toNatClampNeg) - (R 10 x3_3.toNatClampNeg)) ≤ (R 20 3)) → (X122 x2 (1 : Int32) I R)))))))))))))) → X12 x2 I R) ∧
  (∀ (x2 : Int32) (k0 : Int32) (I : Nat → Int32) (R : Nat → Nat → Int32), (∃ Pc_5 : Int32 → Prop, qX4_may Pc_5 p1 x2 I R ∧ (∀ (rc_5 : Int32), Pc_5 rc_5 → (((¬ rc_5 = 0) → (X12 (x2 + (1 : Int32)) I R)) ∧ ((rc_5 = 0) → (((¬ k0 = 0) → (X12 (x2 + (1 : Int32)) I R)) ∧ ((k0 = 0) → (post (0 : Int32) I R))))))) → X122 x2 k0 I R)
def qX4_isGood_12 (post : Int32 → (Nat → Int32) → (Nat → Nat → Int32) → Prop) (p1 : Int32) (x2 : Int32) (I : Nat → Int32) (R : Nat → Nat → Int32) : Prop := ∀ (X12 : Int32 → (Nat → Int32) → (Nat → Nat → Int32) → Prop) (X122 : Int32 → Int32 → (Nat → Int32) → (Nat → Nat → Int32) → Prop), zX4_isGood post p1 X12 X122 → X12 x2 I R
def qX4_isGood_122 (post : Int32 → (Nat → Int32) → (Nat → Nat → Int32) → Prop) (p1 : Int32) (x2 : Int32) (k0 : Int32) (I : Nat → Int32) (R : Nat → Nat → Int32) : Prop := ∀ (X12 : Int32 → (Nat → Int32) → (Nat → Nat → Int32) → Prop) (X122 : Int32 → Int32 → (Nat → Int32) → (Nat → Nat → Int32) → Prop), zX4_isGood post p1 X12 X122 → X122 x2 k0 I R
theorem kX4_isGood_12 {post : Int32 → (Nat → Int32) → (Nat → Nat → Int32) → Prop} {p1 : Int32} {x2 : Int32} {I : Nat → Int32} {R : Nat → Nat → Int32} (h : vp_in p1 14 ∧ ((((R 6 p1.toNatClampNeg) ≤ x2) → (post (1 : Int32) I R)) ∧ ((¬ (R 6 p1.toNatClampNeg) ≤ x2) → (∀ x3_3 : Int32, x3_3 = ((8 : Int32) * p1) + x2 → (vp_in x3_3 112 ∧ (((((R 8 x3_3.toNatClampNeg) + (R 10 x3_3.toNatClampNeg)) < (R 20 0)) → (qX4_isGood_122 post p1 x2 (1 : Int32) I R)) ∧ ((¬ ((R 8 x3_3.toNatClampNeg) + (R 10 x3_3.toNatClampNeg)) < (R 20 0)) → ((((R 20 2) < ((R 8 x3_3.toNatClampNeg) - (R 10 x3_3.toNatClampNeg))) → (qX4_isGood_122 post p1 x2 (1 : Int32) I R)) ∧ ((¬ (R 20 2) < ((R 8 x3_3.toNatClampNeg) - (R 10 x3_3.toNatClampNeg))) → (((((R 9 x3_3.toNatClampNeg) + (R 10 x3_3.toNatClampNeg)) < (R 20 1)) → (qX4_isGood_122 post p1 x2 (1 : Int32) I R)) ∧ ((¬ ((R 9 x3_3.toNatClampNeg) + (R 10 x3_3.toNatClampNeg)) < (R 20 1)) → (((((R 9 x3_3.toNatClampNeg) - (R 10 x3_3.toNatClampNeg)) ≤ (R 20 3)) → (qX4_isGood_122 post p1 x2 (0 : Int32) I R)) ∧ ((¬ ((R 9 x3_3.toNatClampNeg) - (R 10 x3_3.toNatClampNeg)) ≤ (R 20 3)) → (qX4_isGood_122 post p1 x2 (1 : Int32) I R)))))))))))))) : qX4_isGood_12 post p1 x2 I R := by
  intro Z12 Z122 hcl
  refine hcl.1 x2 I R ?_
  refine ⟨h.1, ?_⟩
  have h := h.2
  refine ⟨fun c => ?_, fun c => ?_⟩
  · have h := h.1 c
    exact h
  · have h := h.2 c
    intro x e
    have h := h x e
    refine ⟨h.1, ?_⟩
    have h := h.2
    refine ⟨fun c => ?_, fun c => ?_⟩
    · have h := h.1 c
      exact h _ _ hcl
    · have h := h.2 c
      refine ⟨fun c => ?_, fun c => ?_⟩
      · have h := h.1 c
        exact h _ _ hcl
      · have h := h.2 c
        refine ⟨fun c => ?_, fun c => ?_⟩
        · have h := h.1 c
          exact h _ _ hcl
        · have h := h.2 c
          refine ⟨fun c => ?_, fun c => ?_⟩
          · have h := h.1 c
            exact h _ _ hcl
          · have h := h.2 c
            exact h _ _ hcl
theorem kX4_isGood_122 {post : Int32 → (Nat → Int32) → (Nat → Nat → Int32) → Prop} {p1 : Int32} {x2 : Int32} {k0 : Int32} {I : Nat → Int32} {R : Nat → Nat → Int32} (h : ∃ Pc_5 : Int32 → Prop, qX4_may Pc_5 p1 x2 I R ∧ (∀ (rc_5 : Int32), Pc_5 rc_5 → (((¬ rc_5 = 0) → (qX4_isGood_12 post p1 (x2 + (1 : Int32)) I R)) ∧ ((rc_5 = 0) → (((¬ k0 = 0) → (qX4_isGood_12 post p1 (x2 + (1 : Int32)) I R)) ∧ ((k0 = 0) → (post (0 : Int32) I R))))))) : qX4_isGood_122 post p1 x2 k0 I R := by
  intro Z12 Z122 hcl
  refine hcl.2 x2 k0 I R ?_
  obtain ⟨P, h1, h2⟩ := h
  refine ⟨P, h1, fun b0 hp => ?_⟩
  have h := h2 b0 hp
  refine ⟨fun c => ?_, fun c => ?_⟩
  · have h := h.1 c
    exact h _ _ hcl
  · have h := h.2 c
    refine ⟨fun c => ?_, fun c => ?_⟩
    · have h := h.1 c
      exact h _ _ hcl
    · have h := h.2 c
      exact h
def qX4_isGood (post : Int32 → (Nat → Int32) → (Nat → Nat → Int32) → Prop) (p1 : Int32) (I : Nat → Int32) (R : Nat → Nat → Int32) : Prop := ∃ Pc_1 : Int32 → (Nat → Int32) → (Nat → Nat → Int32) → Prop, qX4_cutOf Pc_1 p1 I R ∧ (∀ (rc_1 : Int32) (Ic_1 : Nat → Int32) (Rc_1 : Nat → Nat → Int32), Pc_1 rc_1 Ic_1 Rc_1 → (((¬ rc_1 = 0) → (qX4_isGood_12 post p1 (0 : Int32) Ic_1 Rc_1)) ∧ ((rc_1 = 0) → (post (0 : Int32) Ic_1 Rc_1))))
theorem mX4_isGood_f25 : Cond.fieldLink RX4 25 "YearBookModel" "faces" "[I" ∈ wsX4_isGood := by decide +kernel
theorem nX4_isGood_X4 : ∀ w ∈ u_ws RX4 TX4 27, w ∈ wsX4_isGood := by decide +kernel
theorem mX4_isGood_f31 : Cond.fieldLink RX4 31 "YearBookModel" "x" "[I" ∈ wsX4_isGood := by decide +kernel
theorem mX4_isGood_f37 : Cond.fieldLink RX4 37 "YearBookModel" "\x72" "[I" ∈ wsX4_isGood := by decide +kernel
theorem mX4_isGood_f53 : Cond.fieldLink RX4 53 "YearBookModel" "cut" "[I" ∈ wsX4_isGood := by decide +kernel
theorem mX4_isGood_f34 : Cond.fieldLink RX4 34 "YearBookModel" "y" "[I" ∈ wsX4_isGood := by decide +kernel
set_option maxHeartbeats 4000000 in
set_option maxRecDepth 100000 in
theorem tX4_isGood (l : Launch) (dC : Nat → ClassId) (dI : Nat → Nat → Nat) (cI : ClassId) (h : Nat) (ad : Nat → Nat)  (sz : Nat) (post : Int32 → (Nat → Int32) → (Nat → Nat → Int32) → Prop) (p1 : Int32) (I : Nat → Int32) (R : Nat → Nat → Int32) (hq : qX4_isGood post p1 I R) : Met l yX4_isGood wsX4_isGood ({ frames := 2, cells := 0, slots := 0, locals := 50 } : Room) (va_Pc [.ref h, .int p1] (wPre (dC, dI) vwCl [(cI, .int)] (wd4 cI h ad I R) sz)) (va_Qi (fun r (u : (Nat → Int32) × (Nat → Nat → Int32)) => post r u.1 u.2) (wAt (dC, dI) vwCl [(cI, .int)] (va_A (wd4 cI h ad I R) sz) (fun u : (Nat → Int32) × (Nat → Nat → Int32) => wd4 cI h ad u.1 u.2)) (va_A (wd4 cI h ad I R) sz)) 0 0 (va_A (wd4 cI h ad I R) sz) := by
  unfold qX4_isGood at hq
  refine Met.ofW (cc := cX4_isGood) (maxL := 5) (ret := (some .boolean)) (by decide) rfl ?_
  intro p e s m args below meth c s₁ B hml hv
  obtain ⟨rfl, hsz, hP, hK, hD0⟩ := hv
  have hx := B.exec
  have hb := B.bytes
  have hr := B.returns
  have hts := atoms_spec (ws := wsX4_isGood) B.pre
  have hown : s.vm.findClass RX4 = some m.cls := findClass_of_methodNamed B.named
  have hlocks := B.notSynchronized
  subst hsz
  have hD := hD0.self (sz := s.heap.size)
  generalize hAe : va_A (wd4 cI h ad I R) s.heap.size = A at hD ⊢
  have hA : ∀ q : Nat, s.heap.size ≤ q → A q := fun q h => by rw [← hAe]; exact Or.inr h
  have hS : va_S A s.heap s.heap [] := va_S.rf
  have hZ : zX4_isGood post p1
      (fun (x2 : Int32) (I : Nat → Int32) (R : Nat → Nat → Int32) => ∀ (H : Heap) (locs : List Loc) (ls : Array Slot), va_P (dC, dI) vwCl (wd4 cI h ad I R) H → va_D A (wd4 cI h ad I R) → va_S A s.heap H locs → lv_has ls 5 [(0, .ref h), (1, .int p1), (2, .int x2)] → W p l e (headSpec wsX4_isGood ({ frames := 2, cells := 0, slots := 0, locals := 50 } : Room)).room s m ([.ref h, .int p1] : List Value).toArray below meth c H locs 0 0 (MQ below (va_Qi (fun r (u : (Nat → Int32) × (Nat → Nat → Int32)) => post r u.1 u.2) (wAt (dC, dI) vwCl [(cI, .int)] A (fun u : (Nat → Int32) × (Nat → Nat → Int32) => wd4 cI h ad u.1 u.2)) A) ([.ref h, .int p1] : List Value).toArray s 0 0 A) (F0 m 12 ls []))
      (fun (x2 : Int32) (k0 : Int32) (I : Nat → Int32) (R : Nat → Nat → Int32) => ∀ (H : Heap) (locs : List Loc) (ls : Array Slot), va_P (dC, dI) vwCl (wd4 cI h ad I R) H → va_D A (wd4 cI h ad I R) → va_S A s.heap H locs → lv_has ls 5 [(0, .ref h), (1, .int p1), (2, .int x2)] → W p l e (headSpec wsX4_isGood ({ frames := 2, cells := 0, slots := 0, locals := 50 } : Room)).room s m ([.ref h, .int p1] : List Value).toArray below meth c H locs 0 0 (MQ below (va_Qi (fun r (u : (Nat → Int32) × (Nat → Nat → Int32)) => post r u.1 u.2) (wAt (dC, dI) vwCl [(cI, .int)] A (fun u : (Nat → Int32) × (Nat → Nat → Int32) => wd4 cI h ad u.1 u.2)) A) ([.ref h, .int p1] : List Value).toArray s 0 0 A) (F0 m 122 ls [.int k0])) := by
    refine ⟨?_, ?_⟩
    · intro x2 I R hq H locs ls hP hD hS hl
      refine lv_iload_n hx hb dX4_isGood_12 rfl (lv_at hl 2 rfl) ?_
      refine lv_aload_n hx hb dX4_isGood_13 rfl (lv_at hl 0 rfl) ?_
      refine va_get (D := (dC, dI)) (ci := 4) (v := .ref (ad 6)) (C := RX4) (T := TX4) (N := 27) hx hb hts nX4_isGood_X4 hown hK hP 0 rfl rfl 6 (by decide) (hts _ mX4_isGood_f25) (fun _ h9 => h9) rfl dX4_isGood_14 ?_
      refine lv_iload_n hx hb dX4_isGood_17 rfl (lv_at hl 1 rfl) ?_
      obtain ⟨hi_2, hq⟩ := hq
      refine va_iald (f := R 6) hx hb hK hP 6 0 rfl rfl hi_2 dX4_isGood_18 ?_
      refine lv_icmp_ge (tgt := 146) hx hb dX4_isGood_19 (by decide) (fun hc => ?_) (fun hc => ?_)
      · have hq := hq.1 hc
        refine lv_iconst (v := (1 : Int32)) hx hb dX4_isGood_146 (by decide) ?_
        exact w_zret (post := fun r (u : (Nat → Int32) × (Nat → Nat → Int32)) => post r u.1 u.2) (wf := fun u : (Nat → Int32) × (Nat → Nat → Int32) => wd4 cI h ad u.1 u.2) (u := (I, R)) hx hb hr rfl hK hP hD hS hq dX4_isGood_147 hlocks
      · have hq := hq.2 hc
        refine lv_bipush (v := (8 : Int32)) hx hb dX4_isGood_22 (by decide) ?_
        refine lv_iload_n hx hb dX4_isGood_24 rfl (lv_at hl 1 rfl) ?_
        refine lv_imul hx hb dX4_isGood_25 ?_
        refine lv_iload_n hx hb dX4_isGood_26 rfl (lv_at hl 2 rfl) ?_
        refine lv_iadd hx hb dX4_isGood_27 ?_
        refine lv_topi (fun x3_3 ex3_3 => ?_)
        have hq := hq x3_3 ex3_3
        refine lv_istore_n (lv' := [(3, .int x3_3), (0, .ref h), (1, .int p1), (2, .int x2)]) hx hb dX4_isGood_28 rfl hl (by decide) rfl (fun ls hl => ?_)
        refine lv_aload_n hx hb dX4_isGood_29 rfl (lv_at hl 1 rfl) ?_
        refine va_get (D := (dC, dI)) (ci := 4) (v := .ref (ad 8)) (C := RX4) (T := TX4) (N := 27) hx hb hts nX4_isGood_X4 hown hK hP 0 rfl rfl 8 (by decide) (hts _ mX4_isGood_f31) (fun _ h9 => h9) rfl dX4_isGood_30 ?_
        refine lv_iload_n hx hb dX4_isGood_33 rfl (lv_at hl 0 rfl) ?_
        obtain ⟨hi_4, hq⟩ := hq
        refine va_iald (f := R 8) hx hb hK hP 8 0 rfl rfl hi_4 dX4_isGood_34 ?_
        refine lv_aload_n hx hb dX4_isGood_35 rfl (lv_at hl 1 rfl) ?_
        refine va_get (D := (dC, dI)) (ci := 4) (v := .ref (ad 10)) (C := RX4) (T := TX4) (N := 27) hx hb hts nX4_isGood_X4 hown hK hP 0 rfl rfl 10 (by decide) (hts _ mX4_isGood_f37) (fun _ h9 => h9) rfl dX4_isGood_36 ?_
        refine lv_iload_n hx hb dX4_isGood_39 rfl (lv_at hl 0 rfl) ?_
        refine va_iald (f := R 10) hx hb hK hP 10 0 rfl rfl hi_4 dX4_isGood_40 ?_
        refine lv_iadd hx hb dX4_isGood_41 ?_
        refine lv_aload_n hx hb dX4_isGood_42 rfl (lv_at hl 1 rfl) ?_
        refine va_get (D := (dC, dI)) (ci := 4) (v := .ref (ad 20)) (C := RX4) (T := TX4) (N := 27) hx hb hts nX4_isGood_X4 hown hK hP 0 rfl rfl 20 (by decide) (hts _ mX4_isGood_f53) (fun _ h9 => h9) rfl dX4_isGood_43 ?_
        refine lv_iconst (v := (0 : Int32)) hx hb dX4_isGood_46 (by decide) ?_
        refine va_ialdk (f := R 20) hx hb hK hP 12 0 rfl rfl 0 (by decide) (by unfold vp_in; decide) dX4_isGood_47 ?_
        refine lv_icmp_lt (tgt := 117) hx hb dX4_isGood_48 (by decide) (fun hc => ?_) (fun hc => ?_)
        · have hq := hq.1 hc
          refine lv_iconst (v := (1 : Int32)) hx hb dX4_isGood_117 (by decide) ?_
          refine lv_goto (tgt := 122) hx hb dX4_isGood_118 (by decide) ?_
          exact hq _ _ ls hP hD hS (lv_sub hl [1, 2, 3] rfl)
        · have hq := hq.2 hc
          refine lv_aload_n hx hb dX4_isGood_51 rfl (lv_at hl 1 rfl) ?_
          refine va_get (D := (dC, dI)) (ci := 4) (v := .ref (ad 8)) (C := RX4) (T := TX4) (N := 27) hx hb hts nX4_isGood_X4 hown hK hP 0 rfl rfl 8 (by decide) (hts _ mX4_isGood_f31) (fun _ h9 => h9) rfl dX4_isGood_52 ?_
          refine lv_iload_n hx hb dX4_isGood_55 rfl (lv_at hl 0 rfl) ?_
          refine va_iald (f := R 8) hx hb hK hP 8 0 rfl rfl hi_4 dX4_isGood_56 ?_
          refine lv_aload_n hx hb dX4_isGood_57 rfl (lv_at hl 1 rfl) ?_
          refine va_get (D := (dC, dI)) (ci := 4) (v := .ref (ad 10)) (C := RX4) (T := TX4) (N := 27) hx hb hts nX4_isGood_X4 hown hK hP 0 rfl rfl 10 (by decide) (hts _ mX4_isGood_f37) (fun _ h9 => h9) rfl dX4_isGood_58 ?_
          refine lv_iload_n hx hb dX4_isGood_61 rfl (lv_at hl 0 rfl) ?_
          refine va_iald (f := R 10) hx hb hK hP 10 0 rfl rfl hi_4 dX4_isGood_62 ?_
          refine lv_isub hx hb dX4_isGood_63 ?_
          refine lv_aload_n hx hb dX4_isGood_64 rfl (lv_at hl 1 rfl) ?_
          refine va_get (D := (dC, dI)) (ci := 4) (v := .ref (ad 20)) (C := RX4) (T := TX4) (N := 27) hx hb hts nX4_isGood_X4 hown hK hP 0 rfl rfl 20 (by decide) (hts _ mX4_isGood_f53) (fun _ h9 => h9) rfl dX4_isGood_65 ?_
          refine lv_iconst (v := (2 : Int32)) hx hb dX4_isGood_68 (by decide) ?_
          refine va_ialdk (f := R 20) hx hb hK hP 12 0 rfl rfl 2 (by decide) (by unfold vp_in; decide) dX4_isGood_69 ?_
          refine lv_icmp_gt (tgt := 117) hx hb dX4_isGood_70 (by decide) (fun hc => ?_) (fun hc => ?_)
          · have hq := hq.1 hc
            refine lv_iconst (v := (1 : Int32)) hx hb dX4_isGood_117 (by decide) ?_
            refine lv_goto (tgt := 122) hx hb dX4_isGood_118 (by decide) ?_
            exact hq _ _ ls hP hD hS (lv_sub hl [1, 2, 3] rfl)
          · have hq := hq.2 hc
            refine lv_aload_n hx hb dX4_isGood_73 rfl (lv_at hl 1 rfl) ?_
            refine va_get (D := (dC, dI)) (ci := 4) (v := .ref (ad 9)) (C := RX4) (T := TX4) (N := 27) hx hb hts nX4_isGood_X4 hown hK hP 0 rfl rfl 9 (by decide) (hts _ mX4_isGood_f34) (fun _ h9 => h9) rfl dX4_isGood_74 ?_
            refine lv_iload_n hx hb dX4_isGood_77 rfl (lv_at hl 0 rfl) ?_
            refine va_iald (f := R 9) hx hb hK hP 9 0 rfl rfl hi_4 dX4_isGood_78 ?_
            refine lv_aload_n hx hb dX4_isGood_79 rfl (lv_at hl 1 rfl) ?_
            refine va_get (D := (dC, dI)) (ci := 4) (v := .ref (ad 10)) (C := RX4) (T := TX4) (N := 27) hx hb hts nX4_isGood_X4 hown hK hP 0 rfl rfl 10 (by decide) (hts _ mX4_isGood_f37) (fun _ h9 => h9) rfl dX4_isGood_80 ?_
            refine lv_iload_n hx hb dX4_isGood_83 rfl (lv_at hl 0 rfl) ?_
            refine va_iald (f := R 10) hx hb hK hP 10 0 rfl rfl hi_4 dX4_isGood_84 ?_
            refine lv_iadd hx hb dX4_isGood_85 ?_
            refine lv_aload_n hx hb dX4_isGood_86 rfl (lv_at hl 1 rfl) ?_
            refine va_get (D := (dC, dI)) (ci := 4) (v := .ref (ad 20)) (C := RX4) (T := TX4) (N := 27) hx hb hts nX4_isGood_X4 hown hK hP 0 rfl rfl 20 (by decide) (hts _ mX4_isGood_f53) (fun _ h9 => h9) rfl dX4_isGood_87 ?_
            refine lv_iconst (v := (1 : Int32)) hx hb dX4_isGood_90 (by decide) ?_
            refine va_ialdk (f := R 20) hx hb hK hP 12 0 rfl rfl 1 (by decide) (by unfold vp_in; decide) dX4_isGood_91 ?_
            refine lv_icmp_lt (tgt := 117) hx hb dX4_isGood_92 (by decide) (fun hc => ?_) (fun hc => ?_)
            · have hq := hq.1 hc
              refine lv_iconst (v := (1 : Int32)) hx hb dX4_isGood_117 (by decide) ?_
              refine lv_goto (tgt := 122) hx hb dX4_isGood_118 (by decide) ?_
              exact hq _ _ ls hP hD hS (lv_sub hl [1, 2, 3] rfl)
            · have hq := hq.2 hc
              refine lv_aload_n hx hb dX4_isGood_95 rfl (lv_at hl 1 rfl) ?_
              refine va_get (D := (dC, dI)) (ci := 4) (v := .ref (ad 9)) (C := RX4) (T := TX4) (N := 27) hx hb hts nX4_isGood_X4 hown hK hP 0 rfl rfl 9 (by decide) (hts _ mX4_isGood_f34) (fun _ h9 => h9) rfl dX4_isGood_96 ?_
              refine lv_iload_n hx hb dX4_isGood_99 rfl (lv_at hl 0 rfl) ?_
              refine va_iald (f := R 9) hx hb hK hP 9 0 rfl rfl hi_4 dX4_isGood_100 ?_
              refine lv_aload_n hx hb dX4_isGood_101 rfl (lv_at hl 1 rfl) ?_
              refine va_get (D := (dC, dI)) (ci := 4) (v := .ref (ad 10)) (C := RX4) (T := TX4) (N := 27) hx hb hts nX4_isGood_X4 hown hK hP 0 rfl rfl 10 (by decide) (hts _ mX4_isGood_f37) (fun _ h9 => h9) rfl dX4_isGood_102 ?_
              refine lv_iload_n hx hb dX4_isGood_105 rfl (lv_at hl 0 rfl) ?_
              refine va_iald (f := R 10) hx hb hK hP 10 0 rfl rfl hi_4 dX4_isGood_106 ?_
              refine lv_isub hx hb dX4_isGood_107 ?_
              refine lv_aload_n hx hb dX4_isGood_108 rfl (lv_at hl 1 rfl) ?_
              refine va_get (D := (dC, dI)) (ci := 4) (v := .ref (ad 20)) (C := RX4) (T := TX4) (N := 27) hx hb hts nX4_isGood_X4 hown hK hP 0 rfl rfl 20 (by decide) (hts _ mX4_isGood_f53) (fun _ h9 => h9) rfl dX4_isGood_109 ?_
              refine lv_iconst (v := (3 : Int32)) hx hb dX4_isGood_112 (by decide) ?_
              refine va_ialdk (f := R 20) hx hb hK hP 12 0 rfl rfl 3 (by decide) (by unfold vp_in; decide) dX4_isGood_113 ?_
              refine lv_icmp_le (tgt := 121) hx hb dX4_isGood_114 (by decide) (fun hc => ?_) (fun hc => ?_)
              · have hq := hq.1 hc
                refine lv_iconst (v := (0 : Int32)) hx hb dX4_isGood_121 (by decide) ?_
                exact hq _ _ ls hP hD hS (lv_sub hl [1, 2, 3] rfl)
              · have hq := hq.2 hc
                refine lv_iconst (v := (1 : Int32)) hx hb dX4_isGood_117 (by decide) ?_
                refine lv_goto (tgt := 122) hx hb dX4_isGood_118 (by decide) ?_
                exact hq _ _ ls hP hD hS (lv_sub hl [1, 2, 3] rfl)
    · intro x2 k0 I R hq H locs ls hP hD hS hl
      refine lv_istore (lv' := [(4, .int k0), (0, .ref h), (1, .int p1), (2, .int x2)]) hx hb dX4_isGood_122 hl (by decide) rfl (fun ls hl => ?_)
      refine lv_aload_n hx hb dX4_isGood_124 rfl (lv_at hl 1 rfl) ?_
      refine lv_iload_n hx hb dX4_isGood_125 rfl (lv_at hl 2 rfl) ?_
      refine lv_iload_n hx hb dX4_isGood_126 rfl (lv_at hl 3 rfl) ?_
      obtain ⟨Pc_5, hc, hq⟩ := hq
      refine w_calli (wf := fun _ : Unit => wd4 cI h ad I R) (va_runV (As := [.int p1, .int x2]) (rest := []) ⟨hx, hb, hml, hown, hts⟩ (tX4_may l dC dI cI h ad _ Pc_5 p1 x2 I R hc) (cwV 2 hts gX4_isGood_X4_may rfl rfl rfl (by decide +kernel) ⟨Nat.le_of_ble_eq_true rfl, Nat.le_of_ble_eq_true rfl⟩) (wPreV hK hP hD (ci := 4) (q0 := 0) rfl rfl) rfl rfl hl.1 rfl (lv_room (Nat.le_of_ble_eq_true rfl)) dX4_isGood_127 ⟨Nat.le_of_ble_eq_true rfl, Nat.le_of_ble_eq_true rfl⟩) hD hS hA (fun rc_5 u H locs hp hP hD hS => ?_)
      have hq := hq rc_5 hp
      have hP : va_P (dC, dI) vwCl (wd4 cI h ad I R) H := hP
      have hD : va_D A (wd4 cI h ad I R) := hD
      refine lv_if_ne (tgt := 140) hx hb dX4_isGood_130 (by decide) (fun hc => ?_) (fun hc => ?_)
      · have hq := hq.1 hc
        refine lv_iinc (v := x2 + (1 : Int32)) (lv' := [(2, .int (x2 + (1 : Int32))), (4, .int k0), (0, .ref h), (1, .int p1)]) hx hb dX4_isGood_140 hl (k := 3) rfl rfl (by decide) rfl (fun ls hl => ?_)
        refine lv_goto (tgt := 12) hx hb dX4_isGood_143 (by decide) ?_
        exact hq _ _ ls hP hD hS (lv_sub hl [2, 3, 0] rfl)
      · have hq := hq.2 hc
        refine lv_iload hx hb dX4_isGood_133 (lv_at hl 0 rfl) ?_
        refine lv_if_ne (tgt := 140) hx hb dX4_isGood_135 (by decide) (fun hc => ?_) (fun hc => ?_)
        · have hq := hq.1 hc
          refine lv_iinc (v := x2 + (1 : Int32)) (lv' := [(2, .int (x2 + (1 : Int32))), (4, .int k0), (0, .ref h), (1, .int p1)]) hx hb dX4_isGood_140 hl (k := 3) rfl rfl (by decide) rfl (fun ls hl => ?_)
          refine lv_goto (tgt := 12) hx hb dX4_isGood_143 (by decide) ?_
          exact hq _ _ ls hP hD hS (lv_sub hl [2, 3, 0] rfl)
        · have hq := hq.2 hc
          refine lv_iconst (v := (0 : Int32)) hx hb dX4_isGood_138 (by decide) ?_
          exact w_zret (post := fun r (u : (Nat → Int32) × (Nat → Nat → Int32)) => post r u.1 u.2) (wf := fun u : (Nat → Int32) × (Nat → Nat → Int32) => wd4 cI h ad u.1 u.2) (u := (I, R)) hx hb hr rfl hK hP hD hS hq dX4_isGood_139 hlocks
  have hl := lv_entry ([.ref h, .int p1]) (n := 5) (Nat.le_of_ble_eq_true rfl)
  rw [lg_entry_eq]
  generalize (lg_sl ([.ref h, .int p1]) ++ List.replicate (5 - (lg_sl ([.ref h, .int p1])).length) Slot.unset).toArray = ls at hl ⊢
  have hl : lv_has ls 5 [(0, .ref h), (1, .int p1)] := hl
  refine lv_aload_n hx hb dX4_isGood_0 rfl (lv_at hl 0 rfl) ?_
  refine lv_iload_n hx hb dX4_isGood_1 rfl (lv_at hl 1 rfl) ?_
  obtain ⟨Pc_1, hc, hq⟩ := hq
  refine w_calli (wf := fun u : (Nat → Int32) × (Nat → Nat → Int32) => wd4 cI h ad u.1 u.2) (va_runV (As := [.int p1]) (rest := []) ⟨hx, hb, hml, hown, hts⟩ (tX4_cutOf l dC dI cI h ad _ Pc_1 p1 I R hc) (cwV 1 hts gX4_isGood_X4_cutOf rfl rfl rfl (by decide +kernel) ⟨Nat.le_of_ble_eq_true rfl, Nat.le_of_ble_eq_true rfl⟩) (wPreV hK hP hD (ci := 4) (q0 := 0) rfl rfl) rfl rfl hl.1 rfl (lv_room (Nat.le_of_ble_eq_true rfl)) dX4_isGood_2 ⟨Nat.le_of_ble_eq_true rfl, Nat.le_of_ble_eq_true rfl⟩) hD hS hA (fun rc_1 u H locs hp hP hD hS => ?_)
  obtain ⟨Ic_1, Rc_1⟩ := u
  have hq := hq rc_1 Ic_1 Rc_1 hp
  have hP : va_P (dC, dI) vwCl (wd4 cI h ad Ic_1 Rc_1) H := hP
  have hD : va_D A (wd4 cI h ad Ic_1 Rc_1) := hD
  refine lv_if_ne (tgt := 10) hx hb dX4_isGood_5 (by decide) (fun hc => ?_) (fun hc => ?_)
  · have hq := hq.1 hc
    refine lv_iconst (v := (0 : Int32)) hx hb dX4_isGood_10 (by decide) ?_
    refine lv_istore_n (lv' := [(2, .int (0 : Int32)), (0, .ref h), (1, .int p1)]) hx hb dX4_isGood_11 rfl hl (by decide) rfl (fun ls hl => ?_)
    exact hq _ _ hZ _ _ ls hP hD hS (lv_sub hl [1, 2, 0] rfl)
  · have hq := hq.2 hc
    refine lv_iconst (v := (0 : Int32)) hx hb dX4_isGood_8 (by decide) ?_
    exact w_zret (post := fun r (u : (Nat → Int32) × (Nat → Nat → Int32)) => post r u.1 u.2) (wf := fun u : (Nat → Int32) × (Nat → Nat → Int32) => wd4 cI h ad u.1 u.2) (u := (Ic_1, Rc_1)) hx hb hr rfl hK hP hD hS hq dX4_isGood_9 hlocks
def zX4_good (post : Int32 → (Nat → Int32) → (Nat → Nat → Int32) → Prop) (X4 : Int32 → Int32 → (Nat → Int32) → (Nat → Nat → Int32) → Prop) : Prop :=
  (∀ (x1 : Int32) (x2 : Int32) (I : Nat → Int32) (R : Nat → Nat → Int32), ((((I 11) ≤ x2) → (post x1 I R)) ∧ ((¬ (I 11) ≤ x2) → (∃ Pc_1 : Int32 → (Nat → Int32) → (Nat → Nat → Int32) → Prop, qX4_isGood Pc_1 x2 I R ∧ (∀ (rc_1 : Int32) (Ic_1 : Nat → Int32) (Rc_1 : Nat → Nat → Int32), Pc_1 rc_1 Ic_1 Rc_1 → (((rc_1 = 0) → (X4 x1 (x2 + (1 : Int32)) Ic_1 Rc_1)) ∧ ((¬ rc_1 = 0) → (∀ x1_2 : Int32, x1_2 = x1 ||| ((1 : Int32) <<< (x2 &&& 31)) → (X4 x1_2 (x2 + (1 : Int32)) Ic_1 Rc_1)))))))) → X4 x1 x2 I R)
def qX4_good_4 (post : Int32 → (Nat → Int32) → (Nat → Nat → Int32) → Prop) (x1 : Int32) (x2 : Int32) (I : Nat → Int32) (R : Nat → Nat → Int32) : Prop := ∀ (X4 : Int32 → Int32 → (Nat → Int32) → (Nat → Nat → Int32) → Prop), zX4_good post X4 → X4 x1 x2 I R
theorem kX4_good_4 {post : Int32 → (Nat → Int32) → (Nat → Nat → Int32) → Prop} {x1 : Int32} {x2 : Int32} {I : Nat → Int32} {R : Nat → Nat → Int32} (h : (((I 11) ≤ x2) → (post x1 I R)) ∧ ((¬ (I 11) ≤ x2) → (∃ Pc_1 : Int32 → (Nat → Int32) → (Nat → Nat → Int32) → Prop, qX4_isGood Pc_1 x2 I R ∧ (∀ (rc_1 : Int32) (Ic_1 : Nat → Int32) (Rc_1 : Nat → Nat → Int32), Pc_1 rc_1 Ic_1 Rc_1 → (((rc_1 = 0) → (qX4_good_4 post x1 (x2 + (1 : Int32)) Ic_1 Rc_1)) ∧ ((¬ rc_1 = 0) → (∀ x1_2 : Int32, x1_2 = x1 ||| ((1 : Int32) <<< (x2 &&& 31)) → (qX4_good_4 post x1_2 (x2 + (1 : Int32)) Ic_1 Rc_1)))))))) : qX4_good_4 post x1 x2 I R := by
  intro Z4 hcl
  refine hcl x1 x2 I R ?_
  refine ⟨fun c => ?_, fun c => ?_⟩
  · have h := h.1 c
    exact h
  · have h := h.2 c
    obtain ⟨P, h1, h2⟩ := h
    refine ⟨P, h1, fun b0 b1 b2 hp => ?_⟩
    have h := h2 b0 b1 b2 hp
    refine ⟨fun c => ?_, fun c => ?_⟩
    · have h := h.1 c
      exact h _ hcl
    · have h := h.2 c
      intro x e
      have h := h x e
      exact h _ hcl
def qX4_good (post : Int32 → (Nat → Int32) → (Nat → Nat → Int32) → Prop) (I : Nat → Int32) (R : Nat → Nat → Int32) : Prop := qX4_good_4 post (0 : Int32) (0 : Int32) I R
theorem mX4_good_f74 : Cond.fieldLink RX4 74 "YearBookModel" "pictures" "I" ∈ wsX4_good := by decide +kernel
theorem nX4_good_X4 : ∀ w ∈ u_ws RX4 TX4 27, w ∈ wsX4_good := by decide +kernel
set_option maxHeartbeats 4000000 in
set_option maxRecDepth 100000 in
theorem tX4_good (l : Launch) (dC : Nat → ClassId) (dI : Nat → Nat → Nat) (cI : ClassId) (h : Nat) (ad : Nat → Nat)  (sz : Nat) (post : Int32 → (Nat → Int32) → (Nat → Nat → Int32) → Prop) (I : Nat → Int32) (R : Nat → Nat → Int32) (hq : qX4_good post I R) : Met l yX4_good wsX4_good ({ frames := 3, cells := 0, slots := 0, locals := 74 } : Room) (va_Pc [.ref h] (wPre (dC, dI) vwCl [(cI, .int)] (wd4 cI h ad I R) sz)) (va_Qi (fun r (u : (Nat → Int32) × (Nat → Nat → Int32)) => post r u.1 u.2) (wAt (dC, dI) vwCl [(cI, .int)] (va_A (wd4 cI h ad I R) sz) (fun u : (Nat → Int32) × (Nat → Nat → Int32) => wd4 cI h ad u.1 u.2)) (va_A (wd4 cI h ad I R) sz)) 0 0 (va_A (wd4 cI h ad I R) sz) := by
  unfold qX4_good at hq
  refine Met.ofW (cc := cX4_good) (maxL := 3) (ret := (some .int)) (by decide) rfl ?_
  intro p e s m args below meth c s₁ B hml hv
  obtain ⟨rfl, hsz, hP, hK, hD0⟩ := hv
  have hx := B.exec
  have hb := B.bytes
  have hr := B.returns
  have hts := atoms_spec (ws := wsX4_good) B.pre
  have hown : s.vm.findClass RX4 = some m.cls := findClass_of_methodNamed B.named
  have hlocks := B.notSynchronized
  subst hsz
  have hD := hD0.self (sz := s.heap.size)
  generalize hAe : va_A (wd4 cI h ad I R) s.heap.size = A at hD ⊢
  have hA : ∀ q : Nat, s.heap.size ≤ q → A q := fun q h => by rw [← hAe]; exact Or.inr h
  have hS : va_S A s.heap s.heap [] := va_S.rf
  have hZ : zX4_good post
      (fun (x1 : Int32) (x2 : Int32) (I : Nat → Int32) (R : Nat → Nat → Int32) => ∀ (H : Heap) (locs : List Loc) (ls : Array Slot), va_P (dC, dI) vwCl (wd4 cI h ad I R) H → va_D A (wd4 cI h ad I R) → va_S A s.heap H locs → lv_has ls 3 [(0, .ref h), (1, .int x1), (2, .int x2)] → W p l e (headSpec wsX4_good ({ frames := 3, cells := 0, slots := 0, locals := 74 } : Room)).room s m ([.ref h] : List Value).toArray below meth c H locs 0 0 (MQ below (va_Qi (fun r (u : (Nat → Int32) × (Nat → Nat → Int32)) => post r u.1 u.2) (wAt (dC, dI) vwCl [(cI, .int)] A (fun u : (Nat → Int32) × (Nat → Nat → Int32) => wd4 cI h ad u.1 u.2)) A) ([.ref h] : List Value).toArray s 0 0 A) (F0 m 4 ls [])) := by
    unfold zX4_good
    intro x1 x2 I R hq H locs ls hP hD hS hl
    refine lv_iload_n hx hb dX4_good_4 rfl (lv_at hl 2 rfl) ?_
    refine lv_aload_n hx hb dX4_good_5 rfl (lv_at hl 0 rfl) ?_
    refine va_get (D := (dC, dI)) (ci := 4) (v := .int (I 11)) (C := RX4) (T := TX4) (N := 27) hx hb hts nX4_good_X4 hown hK hP 0 rfl rfl 11 (by decide) (hts _ mX4_good_f74) (fun _ h9 => h9) rfl dX4_good_6 ?_
    refine lv_icmp_ge (tgt := 32) hx hb dX4_good_9 (by decide) (fun hc => ?_) (fun hc => ?_)
    · have hq := hq.1 hc
      refine lv_iload_n hx hb dX4_good_32 rfl (lv_at hl 1 rfl) ?_
      exact w_iret (post := fun r (u : (Nat → Int32) × (Nat → Nat → Int32)) => post r u.1 u.2) (wf := fun u : (Nat → Int32) × (Nat → Nat → Int32) => wd4 cI h ad u.1 u.2) (u := (I, R)) hx hb hr hK hP hD hS hq dX4_good_33 hlocks
    · have hq := hq.2 hc
      refine lv_aload_n hx hb dX4_good_12 rfl (lv_at hl 0 rfl) ?_
      refine lv_iload_n hx hb dX4_good_13 rfl (lv_at hl 2 rfl) ?_
      obtain ⟨Pc_1, hc, hq⟩ := hq
      refine w_calli (wf := fun u : (Nat → Int32) × (Nat → Nat → Int32) => wd4 cI h ad u.1 u.2) (va_runV (As := [.int x2]) (rest := []) ⟨hx, hb, hml, hown, hts⟩ (tX4_isGood l dC dI cI h ad _ Pc_1 x2 I R hc) (cwV 1 hts gX4_good_X4_isGood rfl rfl rfl (by decide +kernel) ⟨Nat.le_of_ble_eq_true rfl, Nat.le_of_ble_eq_true rfl⟩) (wPreV hK hP hD (ci := 4) (q0 := 0) rfl rfl) rfl rfl hl.1 rfl (lv_room (Nat.le_of_ble_eq_true rfl)) dX4_good_14 ⟨Nat.le_of_ble_eq_true rfl, Nat.le_of_ble_eq_true rfl⟩) hD hS hA (fun rc_1 u H locs hp hP hD hS => ?_)
      obtain ⟨Ic_1, Rc_1⟩ := u
      have hq := hq rc_1 Ic_1 Rc_1 hp
      have hP : va_P (dC, dI) vwCl (wd4 cI h ad Ic_1 Rc_1) H := hP
      have hD : va_D A (wd4 cI h ad Ic_1 Rc_1) := hD
      refine lv_if_eq (tgt := 26) hx hb dX4_good_17 (by decide) (fun hc => ?_) (fun hc => ?_)
      · have hq := hq.1 hc
        refine lv_iinc (v := x2 + (1 : Int32)) (lv' := [(2, .int (x2 + (1 : Int32))), (0, .ref h), (1, .int x1)]) hx hb dX4_good_26 hl (k := 2) rfl rfl (by decide) rfl (fun ls hl => ?_)
        refine lv_goto (tgt := 4) hx hb dX4_good_29 (by decide) ?_
        exact hq _ _ ls hP hD hS (lv_sub hl [1, 2, 0] rfl)
      · have hq := hq.2 hc
        refine lv_iload_n hx hb dX4_good_20 rfl (lv_at hl 1 rfl) ?_
        refine lv_iconst (v := (1 : Int32)) hx hb dX4_good_21 (by decide) ?_
        refine lv_iload_n hx hb dX4_good_22 rfl (lv_at hl 2 rfl) ?_
        refine lv_ishl hx hb dX4_good_23 ?_
        refine lv_ior hx hb dX4_good_24 ?_
        refine lv_topi (fun x1_2 ex1_2 => ?_)
        have hq := hq x1_2 ex1_2
        refine lv_istore_n (lv' := [(1, .int x1_2), (0, .ref h), (2, .int x2)]) hx hb dX4_good_25 rfl hl (by decide) rfl (fun ls hl => ?_)
        refine lv_iinc (v := x2 + (1 : Int32)) (lv' := [(2, .int (x2 + (1 : Int32))), (1, .int x1_2), (0, .ref h)]) hx hb dX4_good_26 hl (k := 2) rfl rfl (by decide) rfl (fun ls hl => ?_)
        refine lv_goto (tgt := 4) hx hb dX4_good_29 (by decide) ?_
        exact hq _ _ ls hP hD hS (lv_sub hl [2, 1, 0] rfl)
  have hl := lv_entry ([.ref h]) (n := 3) (Nat.le_of_ble_eq_true rfl)
  rw [lg_entry_eq]
  generalize (lg_sl ([.ref h]) ++ List.replicate (3 - (lg_sl ([.ref h])).length) Slot.unset).toArray = ls at hl ⊢
  have hl : lv_has ls 3 [(0, .ref h)] := hl
  refine lv_iconst (v := (0 : Int32)) hx hb dX4_good_0 (by decide) ?_
  refine lv_istore_n (lv' := [(1, .int (0 : Int32)), (0, .ref h)]) hx hb dX4_good_1 rfl hl (by decide) rfl (fun ls hl => ?_)
  refine lv_iconst (v := (0 : Int32)) hx hb dX4_good_2 (by decide) ?_
  refine lv_istore_n (lv' := [(2, .int (0 : Int32)), (1, .int (0 : Int32)), (0, .ref h)]) hx hb dX4_good_3 rfl hl (by decide) rfl (fun ls hl => ?_)
  exact hq _ hZ _ _ ls hP hD hS (lv_sub hl [2, 1, 0] rfl)
def zX4_seenIn (post : Int32 → (Nat → Int32) → (Nat → Nat → Int32) → Prop) (p1 : Int32) (X14 : Int32 → Int32 → (Nat → Int32) → (Nat → Nat → Int32) → Prop) : Prop :=
  (∀ (x2 : Int32) (x3 : Int32) (I : Nat → Int32) (R : Nat → Nat → Int32), (vp_in p1 14 ∧ ((((R 6 p1.toNatClampNeg) ≤ x3) → (post x2 I R)) ∧ ((¬ (R 6 p1.toNatClampNeg) ≤ x3) → (∃ Pc_3 : Int32 → Prop, qX4_may Pc_3 p1 x3 I R ∧ (∀ (rc_3 : Int32), Pc_3 rc_3 → (((rc_3 = 0) → (X14 x2 (x3 + (1 : Int32)) I R)) ∧ ((¬ rc_3 = 0) → (vp_in (((8 : Int32) * p1) + x3) 112 ∧ (∀ x2_5 : Int32, x2_5 = x2 ||| ((1 : Int32) <<< ((R 7 (((8 : Int32) * p1) + x3).toNatClampNeg) &&& 31)) → (X14 x2_5 (x3 + (1 : Int32)) I R)))))))))) → X14 x2 x3 I R)
def qX4_seenIn_14 (post : Int32 → (Nat → Int32) → (Nat → Nat → Int32) → Prop) (p1 : Int32) (x2 : Int32) (x3 : Int32) (I : Nat → Int32) (R : Nat → Nat → Int32) : Prop := ∀ (X14 : Int32 → Int32 → (Nat → Int32) → (Nat → Nat → Int32) → Prop), zX4_seenIn post p1 X14 → X14 x2 x3 I R
theorem kX4_seenIn_14 {post : Int32 → (Nat → Int32) → (Nat → Nat → Int32) → Prop} {p1 : Int32} {x2 : Int32} {x3 : Int32} {I : Nat → Int32} {R : Nat → Nat → Int32} (h : vp_in p1 14 ∧ ((((R 6 p1.toNatClampNeg) ≤ x3) → (post x2 I R)) ∧ ((¬ (R 6 p1.toNatClampNeg) ≤ x3) → (∃ Pc_3 : Int32 → Prop, qX4_may Pc_3 p1 x3 I R ∧ (∀ (rc_3 : Int32), Pc_3 rc_3 → (((rc_3 = 0) → (qX4_seenIn_14 post p1 x2 (x3 + (1 : Int32)) I R)) ∧ ((¬ rc_3 = 0) → (vp_in (((8 : Int32) * p1) + x3) 112 ∧ (∀ x2_5 : Int32, x2_5 = x2 ||| ((1 : Int32) <<< ((R 7 (((8 : Int32) * p1) + x3).toNatClampNeg) &&& 31)) → (qX4_seenIn_14 post p1 x2_5 (x3 + (1 : Int32)) I R)))))))))) : qX4_seenIn_14 post p1 x2 x3 I R := by
  intro Z14 hcl
  refine hcl x2 x3 I R ?_
  refine ⟨h.1, ?_⟩
  have h := h.2
  refine ⟨fun c => ?_, fun c => ?_⟩
  · have h := h.1 c
    exact h
  · have h := h.2 c
    obtain ⟨P, h1, h2⟩ := h
    refine ⟨P, h1, fun b0 hp => ?_⟩
    have h := h2 b0 hp
    refine ⟨fun c => ?_, fun c => ?_⟩
    · have h := h.1 c
      exact h _ hcl
    · have h := h.2 c
      refine ⟨h.1, ?_⟩
      have h := h.2
      intro x e
      have h := h x e
      exact h _ hcl
def qX4_seenIn (post : Int32 → (Nat → Int32) → (Nat → Nat → Int32) → Prop) (p1 : Int32) (I : Nat → Int32) (R : Nat → Nat → Int32) : Prop := ∃ Pc_1 : Int32 → (Nat → Int32) → (Nat → Nat → Int32) → Prop, qX4_isGood Pc_1 p1 I R ∧ (∀ (rc_1 : Int32) (Ic_1 : Nat → Int32) (Rc_1 : Nat → Nat → Int32), Pc_1 rc_1 Ic_1 Rc_1 → (((¬ rc_1 = 0) → (qX4_seenIn_14 post p1 (0 : Int32) (0 : Int32) Ic_1 Rc_1)) ∧ ((rc_1 = 0) → (post (0 : Int32) Ic_1 Rc_1))))
theorem mX4_seenIn_f25 : Cond.fieldLink RX4 25 "YearBookModel" "faces" "[I" ∈ wsX4_seenIn := by decide +kernel
theorem nX4_seenIn_X4 : ∀ w ∈ u_ws RX4 TX4 27, w ∈ wsX4_seenIn := by decide +kernel
theorem mX4_seenIn_f28 : Cond.fieldLink RX4 28 "YearBookModel" "who" "[I" ∈ wsX4_seenIn := by decide +kernel
set_option maxHeartbeats 4000000 in
set_option maxRecDepth 100000 in
theorem tX4_seenIn (l : Launch) (dC : Nat → ClassId) (dI : Nat → Nat → Nat) (cI : ClassId) (h : Nat) (ad : Nat → Nat)  (sz : Nat) (post : Int32 → (Nat → Int32) → (Nat → Nat → Int32) → Prop) (p1 : Int32) (I : Nat → Int32) (R : Nat → Nat → Int32) (hq : qX4_seenIn post p1 I R) : Met l yX4_seenIn wsX4_seenIn ({ frames := 3, cells := 0, slots := 0, locals := 74 } : Room) (va_Pc [.ref h, .int p1] (wPre (dC, dI) vwCl [(cI, .int)] (wd4 cI h ad I R) sz)) (va_Qi (fun r (u : (Nat → Int32) × (Nat → Nat → Int32)) => post r u.1 u.2) (wAt (dC, dI) vwCl [(cI, .int)] (va_A (wd4 cI h ad I R) sz) (fun u : (Nat → Int32) × (Nat → Nat → Int32) => wd4 cI h ad u.1 u.2)) (va_A (wd4 cI h ad I R) sz)) 0 0 (va_A (wd4 cI h ad I R) sz) := by
  unfold qX4_seenIn at hq
  refine Met.ofW (cc := cX4_seenIn) (maxL := 4) (ret := (some .int)) (by decide) rfl ?_
  intro p e s m args below meth c s₁ B hml hv
  obtain ⟨rfl, hsz, hP, hK, hD0⟩ := hv
  have hx := B.exec
  have hb := B.bytes
  have hr := B.returns
  have hts := atoms_spec (ws := wsX4_seenIn) B.pre
  have hown : s.vm.findClass RX4 = some m.cls := findClass_of_methodNamed B.named
  have hlocks := B.notSynchronized
  subst hsz
  have hD := hD0.self (sz := s.heap.size)
  generalize hAe : va_A (wd4 cI h ad I R) s.heap.size = A at hD ⊢
  have hA : ∀ q : Nat, s.heap.size ≤ q → A q := fun q h => by rw [← hAe]; exact Or.inr h
  have hS : va_S A s.heap s.heap [] := va_S.rf
  have hZ : zX4_seenIn post p1
      (fun (x2 : Int32) (x3 : Int32) (I : Nat → Int32) (R : Nat → Nat → Int32) => ∀ (H : Heap) (locs : List Loc) (ls : Array Slot), va_P (dC, dI) vwCl (wd4 cI h ad I R) H → va_D A (wd4 cI h ad I R) → va_S A s.heap H locs → lv_has ls 4 [(0, .ref h), (1, .int p1), (2, .int x2), (3, .int x3)] → W p l e (headSpec wsX4_seenIn ({ frames := 3, cells := 0, slots := 0, locals := 74 } : Room)).room s m ([.ref h, .int p1] : List Value).toArray below meth c H locs 0 0 (MQ below (va_Qi (fun r (u : (Nat → Int32) × (Nat → Nat → Int32)) => post r u.1 u.2) (wAt (dC, dI) vwCl [(cI, .int)] A (fun u : (Nat → Int32) × (Nat → Nat → Int32) => wd4 cI h ad u.1 u.2)) A) ([.ref h, .int p1] : List Value).toArray s 0 0 A) (F0 m 14 ls [])) := by
    unfold zX4_seenIn
    intro x2 x3 I R hq H locs ls hP hD hS hl
    refine lv_iload_n hx hb dX4_seenIn_14 rfl (lv_at hl 3 rfl) ?_
    refine lv_aload_n hx hb dX4_seenIn_15 rfl (lv_at hl 0 rfl) ?_
    refine va_get (D := (dC, dI)) (ci := 4) (v := .ref (ad 6)) (C := RX4) (T := TX4) (N := 27) hx hb hts nX4_seenIn_X4 hown hK hP 0 rfl rfl 6 (by decide) (hts _ mX4_seenIn_f25) (fun _ h9 => h9) rfl dX4_seenIn_16 ?_
    refine lv_iload_n hx hb dX4_seenIn_19 rfl (lv_at hl 1 rfl) ?_
    obtain ⟨hi_2, hq⟩ := hq
    refine va_iald (f := R 6) hx hb hK hP 6 0 rfl rfl hi_2 dX4_seenIn_20 ?_
    refine lv_icmp_ge (tgt := 55) hx hb dX4_seenIn_21 (by decide) (fun hc => ?_) (fun hc => ?_)
    · have hq := hq.1 hc
      refine lv_iload_n hx hb dX4_seenIn_55 rfl (lv_at hl 2 rfl) ?_
      exact w_iret (post := fun r (u : (Nat → Int32) × (Nat → Nat → Int32)) => post r u.1 u.2) (wf := fun u : (Nat → Int32) × (Nat → Nat → Int32) => wd4 cI h ad u.1 u.2) (u := (I, R)) hx hb hr hK hP hD hS hq dX4_seenIn_56 hlocks
    · have hq := hq.2 hc
      refine lv_aload_n hx hb dX4_seenIn_24 rfl (lv_at hl 0 rfl) ?_
      refine lv_iload_n hx hb dX4_seenIn_25 rfl (lv_at hl 1 rfl) ?_
      refine lv_iload_n hx hb dX4_seenIn_26 rfl (lv_at hl 3 rfl) ?_
      obtain ⟨Pc_3, hc, hq⟩ := hq
      refine w_calli (wf := fun _ : Unit => wd4 cI h ad I R) (va_runV (As := [.int p1, .int x3]) (rest := []) ⟨hx, hb, hml, hown, hts⟩ (tX4_may l dC dI cI h ad _ Pc_3 p1 x3 I R hc) (cwV 2 hts gX4_seenIn_X4_may rfl rfl rfl (by decide +kernel) ⟨Nat.le_of_ble_eq_true rfl, Nat.le_of_ble_eq_true rfl⟩) (wPreV hK hP hD (ci := 4) (q0 := 0) rfl rfl) rfl rfl hl.1 rfl (lv_room (Nat.le_of_ble_eq_true rfl)) dX4_seenIn_27 ⟨Nat.le_of_ble_eq_true rfl, Nat.le_of_ble_eq_true rfl⟩) hD hS hA (fun rc_3 u H locs hp hP hD hS => ?_)
      have hq := hq rc_3 hp
      have hP : va_P (dC, dI) vwCl (wd4 cI h ad I R) H := hP
      have hD : va_D A (wd4 cI h ad I R) := hD
      refine lv_if_eq (tgt := 49) hx hb dX4_seenIn_30 (by decide) (fun hc => ?_) (fun hc => ?_)
      · have hq := hq.1 hc
        refine lv_iinc (v := x3 + (1 : Int32)) (lv' := [(3, .int (x3 + (1 : Int32))), (0, .ref h), (1, .int p1), (2, .int x2)]) hx hb dX4_seenIn_49 hl (k := 3) rfl rfl (by decide) rfl (fun ls hl => ?_)
        refine lv_goto (tgt := 14) hx hb dX4_seenIn_52 (by decide) ?_
        exact hq _ _ ls hP hD hS (lv_sub hl [1, 2, 3, 0] rfl)
      · have hq := hq.2 hc
        refine lv_iload_n hx hb dX4_seenIn_33 rfl (lv_at hl 2 rfl) ?_
        refine lv_iconst (v := (1 : Int32)) hx hb dX4_seenIn_34 (by decide) ?_
        refine lv_aload_n hx hb dX4_seenIn_35 rfl (lv_at hl 0 rfl) ?_
        refine va_get (D := (dC, dI)) (ci := 4) (v := .ref (ad 7)) (C := RX4) (T := TX4) (N := 27) hx hb hts nX4_seenIn_X4 hown hK hP 0 rfl rfl 7 (by decide) (hts _ mX4_seenIn_f28) (fun _ h9 => h9) rfl dX4_seenIn_36 ?_
        refine lv_bipush (v := (8 : Int32)) hx hb dX4_seenIn_39 (by decide) ?_
        refine lv_iload_n hx hb dX4_seenIn_41 rfl (lv_at hl 1 rfl) ?_
        refine lv_imul hx hb dX4_seenIn_42 ?_
        refine lv_iload_n hx hb dX4_seenIn_43 rfl (lv_at hl 3 rfl) ?_
        refine lv_iadd hx hb dX4_seenIn_44 ?_
        obtain ⟨hi_4, hq⟩ := hq
        refine va_iald (f := R 7) hx hb hK hP 7 0 rfl rfl hi_4 dX4_seenIn_45 ?_
        refine lv_ishl hx hb dX4_seenIn_46 ?_
        refine lv_ior hx hb dX4_seenIn_47 ?_
        refine lv_topi (fun x2_5 ex2_5 => ?_)
        have hq := hq x2_5 ex2_5
        refine lv_istore_n (lv' := [(2, .int x2_5), (0, .ref h), (1, .int p1), (3, .int x3)]) hx hb dX4_seenIn_48 rfl hl (by decide) rfl (fun ls hl => ?_)
        refine lv_iinc (v := x3 + (1 : Int32)) (lv' := [(3, .int (x3 + (1 : Int32))), (2, .int x2_5), (0, .ref h), (1, .int p1)]) hx hb dX4_seenIn_49 hl (k := 3) rfl rfl (by decide) rfl (fun ls hl => ?_)
        refine lv_goto (tgt := 14) hx hb dX4_seenIn_52 (by decide) ?_
        exact hq _ _ ls hP hD hS (lv_sub hl [2, 3, 1, 0] rfl)
  have hl := lv_entry ([.ref h, .int p1]) (n := 4) (Nat.le_of_ble_eq_true rfl)
  rw [lg_entry_eq]
  generalize (lg_sl ([.ref h, .int p1]) ++ List.replicate (4 - (lg_sl ([.ref h, .int p1])).length) Slot.unset).toArray = ls at hl ⊢
  have hl : lv_has ls 4 [(0, .ref h), (1, .int p1)] := hl
  refine lv_aload_n hx hb dX4_seenIn_0 rfl (lv_at hl 0 rfl) ?_
  refine lv_iload_n hx hb dX4_seenIn_1 rfl (lv_at hl 1 rfl) ?_
  obtain ⟨Pc_1, hc, hq⟩ := hq
  refine w_calli (wf := fun u : (Nat → Int32) × (Nat → Nat → Int32) => wd4 cI h ad u.1 u.2) (va_runV (As := [.int p1]) (rest := []) ⟨hx, hb, hml, hown, hts⟩ (tX4_isGood l dC dI cI h ad _ Pc_1 p1 I R hc) (cwV 1 hts gX4_seenIn_X4_isGood rfl rfl rfl (by decide +kernel) ⟨Nat.le_of_ble_eq_true rfl, Nat.le_of_ble_eq_true rfl⟩) (wPreV hK hP hD (ci := 4) (q0 := 0) rfl rfl) rfl rfl hl.1 rfl (lv_room (Nat.le_of_ble_eq_true rfl)) dX4_seenIn_2 ⟨Nat.le_of_ble_eq_true rfl, Nat.le_of_ble_eq_true rfl⟩) hD hS hA (fun rc_1 u H locs hp hP hD hS => ?_)
  obtain ⟨Ic_1, Rc_1⟩ := u
  have hq := hq rc_1 Ic_1 Rc_1 hp
  have hP : va_P (dC, dI) vwCl (wd4 cI h ad Ic_1 Rc_1) H := hP
  have hD : va_D A (wd4 cI h ad Ic_1 Rc_1) := hD
  refine lv_if_ne (tgt := 10) hx hb dX4_seenIn_5 (by decide) (fun hc => ?_) (fun hc => ?_)
  · have hq := hq.1 hc
    refine lv_iconst (v := (0 : Int32)) hx hb dX4_seenIn_10 (by decide) ?_
    refine lv_istore_n (lv' := [(2, .int (0 : Int32)), (0, .ref h), (1, .int p1)]) hx hb dX4_seenIn_11 rfl hl (by decide) rfl (fun ls hl => ?_)
    refine lv_iconst (v := (0 : Int32)) hx hb dX4_seenIn_12 (by decide) ?_
    refine lv_istore_n (lv' := [(3, .int (0 : Int32)), (2, .int (0 : Int32)), (0, .ref h), (1, .int p1)]) hx hb dX4_seenIn_13 rfl hl (by decide) rfl (fun ls hl => ?_)
    exact hq _ hZ _ _ ls hP hD hS (lv_sub hl [2, 3, 1, 0] rfl)
  · have hq := hq.2 hc
    refine lv_iconst (v := (0 : Int32)) hx hb dX4_seenIn_8 (by decide) ?_
    exact w_iret (post := fun r (u : (Nat → Int32) × (Nat → Nat → Int32)) => post r u.1 u.2) (wf := fun u : (Nat → Int32) × (Nat → Nat → Int32) => wd4 cI h ad u.1 u.2) (u := (Ic_1, Rc_1)) hx hb hr hK hP hD hS hq dX4_seenIn_9 hlocks
def zX4_takeSeen (post : (Nat → Int32) → (Nat → Nat → Int32) → Prop) (X7 : Int32 → (Nat → Int32) → (Nat → Nat → Int32) → Prop) : Prop :=
  (∀ (x1 : Int32) (I : Nat → Int32) (R : Nat → Nat → Int32), ((((I 11) ≤ x1) → (post I R)) ∧ ((¬ (I 11) ≤ x1) → (∃ Pc_1 : Int32 → (Nat → Int32) → (Nat → Nat → Int32) → Prop, qX4_seenIn Pc_1 x1 I R ∧ (∀ (rc_1 : Int32) (Ic_1 : Nat → Int32) (Rc_1 : Nat → Nat → Int32), Pc_1 rc_1 Ic_1 Rc_1 → (vp_in x1 14 ∧ (∀ v_3 : Int32, v_3 = (upd (Rc_1 22) x1.toNatClampNeg rc_1) x1.toNatClampNeg → (X7 (x1 + (1 : Int32)) (va_up Ic_1 23 ((Ic_1 23) ||| v_3)) (va_up Rc_1 22 (upd (Rc_1 22) x1.toNatClampNeg rc_1))))))))) → X7 x1 I R)
def qX4_takeSeen_7 (post : (Nat → Int32) → (Nat → Nat → Int32) → Prop) (x1 : Int32) (I : Nat → Int32) (R : Nat → Nat → Int32) : Prop := ∀ (X7 : Int32 → (Nat → Int32) → (Nat → Nat → Int32) → Prop), zX4_takeSeen post X7 → X7 x1 I R
theorem kX4_takeSeen_7 {post : (Nat → Int32) → (Nat → Nat → Int32) → Prop} {x1 : Int32} {I : Nat → Int32} {R : Nat → Nat → Int32} (h : (((I 11) ≤ x1) → (post I R)) ∧ ((¬ (I 11) ≤ x1) → (∃ Pc_1 : Int32 → (Nat → Int32) → (Nat → Nat → Int32) → Prop, qX4_seenIn Pc_1 x1 I R ∧ (∀ (rc_1 : Int32) (Ic_1 : Nat → Int32) (Rc_1 : Nat → Nat → Int32), Pc_1 rc_1 Ic_1 Rc_1 → (vp_in x1 14 ∧ (∀ v_3 : Int32, v_3 = (upd (Rc_1 22) x1.toNatClampNeg rc_1) x1.toNatClampNeg → (qX4_takeSeen_7 post (x1 + (1 : Int32)) (va_up Ic_1 23 ((Ic_1 23) ||| v_3)) (va_up Rc_1 22 (upd (Rc_1 22) x1.toNatClampNeg rc_1))))))))) : qX4_takeSeen_7 post x1 I R := by
  intro Z7 hcl
  refine hcl x1 I R ?_
  refine ⟨fun c => ?_, fun c => ?_⟩
  · have h := h.1 c
    exact h
  · have h := h.2 c
    obtain ⟨P, h1, h2⟩ := h
    refine ⟨P, h1, fun b0 b1 b2 hp => ?_⟩
    have h := h2 b0 b1 b2 hp
    refine ⟨h.1, ?_⟩
    have h := h.2
    intro x e
    have h := h x e
    exact h _ hcl
def qX4_takeSeen (post : (Nat → Int32) → (Nat → Nat → Int32) → Prop) (I : Nat → Int32) (R : Nat → Nat → Int32) : Prop := qX4_takeSeen_7 post (0 : Int32) (va_up I 23 (0 : Int32)) R
theorem mX4_takeSeen_f134 : Cond.fieldLink RX4 134 "YearBookModel" "allShown" "I" ∈ wsX4_takeSeen := by decide +kernel
theorem nX4_takeSeen_X4 : ∀ w ∈ u_ws RX4 TX4 27, w ∈ wsX4_takeSeen := by decide +kernel
theorem mX4_takeSeen_f74 : Cond.fieldLink RX4 74 "YearBookModel" "pictures" "I" ∈ wsX4_takeSeen := by decide +kernel
theorem mX4_takeSeen_f59 : Cond.fieldLink RX4 59 "YearBookModel" "seenBits" "[I" ∈ wsX4_takeSeen := by decide +kernel
set_option maxHeartbeats 4000000 in
set_option maxRecDepth 100000 in
theorem tX4_takeSeen (l : Launch) (dC : Nat → ClassId) (dI : Nat → Nat → Nat) (cI : ClassId) (h : Nat) (ad : Nat → Nat)  (sz : Nat) (post : (Nat → Int32) → (Nat → Nat → Int32) → Prop) (I : Nat → Int32) (R : Nat → Nat → Int32) (hq : qX4_takeSeen post I R) : Met l yX4_takeSeen wsX4_takeSeen ({ frames := 4, cells := 0, slots := 0, locals := 97 } : Room) (va_Pc [.ref h] (wPre (dC, dI) vwCl [(cI, .int)] (wd4 cI h ad I R) sz)) (va_Qv (fun (u : (Nat → Int32) × (Nat → Nat → Int32)) => post u.1 u.2) (wAt (dC, dI) vwCl [(cI, .int)] (va_A (wd4 cI h ad I R) sz) (fun u : (Nat → Int32) × (Nat → Nat → Int32) => wd4 cI h ad u.1 u.2)) (va_A (wd4 cI h ad I R) sz)) 0 0 (va_A (wd4 cI h ad I R) sz) := by
  unfold qX4_takeSeen at hq
  refine Met.ofW (cc := cX4_takeSeen) (maxL := 2) (ret := none) (by decide) rfl ?_
  intro p e s m args below meth c s₁ B hml hv
  obtain ⟨rfl, hsz, hP, hK, hD0⟩ := hv
  have hx := B.exec
  have hb := B.bytes
  have hr := B.returns
  have hts := atoms_spec (ws := wsX4_takeSeen) B.pre
  have hown : s.vm.findClass RX4 = some m.cls := findClass_of_methodNamed B.named
  have hlocks := B.notSynchronized
  subst hsz
  have hD := hD0.self (sz := s.heap.size)
  generalize hAe : va_A (wd4 cI h ad I R) s.heap.size = A at hD ⊢
  have hA : ∀ q : Nat, s.heap.size ≤ q → A q := fun q h => by rw [← hAe]; exact Or.inr h
  have hS : va_S A s.heap s.heap [] := va_S.rf
  have hZ : zX4_takeSeen post
      (fun (x1 : Int32) (I : Nat → Int32) (R : Nat → Nat → Int32) => ∀ (H : Heap) (locs : List Loc) (ls : Array Slot), va_P (dC, dI) vwCl (wd4 cI h ad I R) H → va_D A (wd4 cI h ad I R) → va_S A s.heap H locs → lv_has ls 2 [(0, .ref h), (1, .int x1)] → W p l e (headSpec wsX4_takeSeen ({ frames := 4, cells := 0, slots := 0, locals := 97 } : Room)).room s m ([.ref h] : List Value).toArray below meth c H locs 0 0 (MQ below (va_Qv (fun (u : (Nat → Int32) × (Nat → Nat → Int32)) => post u.1 u.2) (wAt (dC, dI) vwCl [(cI, .int)] A (fun u : (Nat → Int32) × (Nat → Nat → Int32) => wd4 cI h ad u.1 u.2)) A) ([.ref h] : List Value).toArray s 0 0 A) (F0 m 7 ls [])) := by
    unfold zX4_takeSeen
    intro x1 I R hq H locs ls hP hD hS hl
    refine lv_iload_n hx hb dX4_takeSeen_7 rfl (lv_at hl 1 rfl) ?_
    refine lv_aload_n hx hb dX4_takeSeen_8 rfl (lv_at hl 0 rfl) ?_
    refine va_get (D := (dC, dI)) (ci := 4) (v := .int (I 11)) (C := RX4) (T := TX4) (N := 27) hx hb hts nX4_takeSeen_X4 hown hK hP 0 rfl rfl 11 (by decide) (hts _ mX4_takeSeen_f74) (fun _ h9 => h9) rfl dX4_takeSeen_9 ?_
    refine lv_icmp_ge (tgt := 47) hx hb dX4_takeSeen_12 (by decide) (fun hc => ?_) (fun hc => ?_)
    · have hq := hq.1 hc
      exact w_vret (post := fun (u : (Nat → Int32) × (Nat → Nat → Int32)) => post u.1 u.2) (wf := fun u : (Nat → Int32) × (Nat → Nat → Int32) => wd4 cI h ad u.1 u.2) (u := (I, R)) hx hb hr hK hP hD hS hq dX4_takeSeen_47 hlocks
    · have hq := hq.2 hc
      refine lv_aload_n hx hb dX4_takeSeen_15 rfl (lv_at hl 0 rfl) ?_
      refine va_get (D := (dC, dI)) (ci := 4) (v := .ref (ad 22)) (C := RX4) (T := TX4) (N := 27) hx hb hts nX4_takeSeen_X4 hown hK hP 0 rfl rfl 22 (by decide) (hts _ mX4_takeSeen_f59) (fun _ h9 => h9) rfl dX4_takeSeen_16 ?_
      refine lv_iload_n hx hb dX4_takeSeen_19 rfl (lv_at hl 1 rfl) ?_
      refine lv_aload_n hx hb dX4_takeSeen_20 rfl (lv_at hl 0 rfl) ?_
      refine lv_iload_n hx hb dX4_takeSeen_21 rfl (lv_at hl 1 rfl) ?_
      obtain ⟨Pc_1, hc, hq⟩ := hq
      refine w_calli (wf := fun u : (Nat → Int32) × (Nat → Nat → Int32) => wd4 cI h ad u.1 u.2) (va_runV (As := [.int x1]) (rest := [.int x1, .ref (ad 22)]) ⟨hx, hb, hml, hown, hts⟩ (tX4_seenIn l dC dI cI h ad _ Pc_1 x1 I R hc) (cwV 1 hts gX4_takeSeen_X4_seenIn rfl rfl rfl (by decide +kernel) ⟨Nat.le_of_ble_eq_true rfl, Nat.le_of_ble_eq_true rfl⟩) (wPreV hK hP hD (ci := 4) (q0 := 0) rfl rfl) rfl rfl hl.1 rfl (lv_room (Nat.le_of_ble_eq_true rfl)) dX4_takeSeen_22 ⟨Nat.le_of_ble_eq_true rfl, Nat.le_of_ble_eq_true rfl⟩) hD hS hA (fun rc_1 u H locs hp hP hD hS => ?_)
      obtain ⟨Ic_1, Rc_1⟩ := u
      have hq := hq rc_1 Ic_1 Rc_1 hp
      have hP : va_P (dC, dI) vwCl (wd4 cI h ad Ic_1 Rc_1) H := hP
      have hD : va_D A (wd4 cI h ad Ic_1 Rc_1) := hD
      obtain ⟨hi_2, hq⟩ := hq
      refine va_iast (f := Rc_1 22) hx hb hK hP hD hS 14 0 rfl rfl hi_2 dX4_takeSeen_25 (fun H locs hP hD hS => ?_)
      rw [wd4_R22] at hP hD
      refine lv_aload_n hx hb dX4_takeSeen_26 rfl (lv_at hl 0 rfl) ?_
      refine lv_dup hx hb dX4_takeSeen_27 rfl ?_
      refine va_get (D := (dC, dI)) (ci := 4) (v := .int (Ic_1 23)) (C := RX4) (T := TX4) (N := 27) hx hb hts nX4_takeSeen_X4 hown hK hP 0 rfl rfl 23 (by decide) (hts _ mX4_takeSeen_f134) (fun _ h9 => h9) rfl dX4_takeSeen_28 ?_
      refine lv_aload_n hx hb dX4_takeSeen_31 rfl (lv_at hl 0 rfl) ?_
      refine va_get (D := (dC, dI)) (ci := 4) (v := .ref (ad 22)) (C := RX4) (T := TX4) (N := 27) hx hb hts nX4_takeSeen_X4 hown hK hP 0 rfl rfl 22 (by decide) (hts _ mX4_takeSeen_f59) (fun _ h9 => h9) rfl dX4_takeSeen_32 ?_
      refine lv_iload_n hx hb dX4_takeSeen_35 rfl (lv_at hl 1 rfl) ?_
      refine va_iald (f := upd (Rc_1 22) x1.toNatClampNeg rc_1) hx hb hK hP 14 0 rfl rfl hi_2 dX4_takeSeen_36 ?_
      refine lv_topi (fun v_3 ev_3 => ?_)
      have hq := hq v_3 ev_3
      refine lv_ior hx hb dX4_takeSeen_37 ?_
      refine va_put (D := (dC, dI)) (ci := 4) (v := .int ((Ic_1 23) ||| v_3)) (ty := .int) (C := RX4) (T := TX4) (N := 27) hx hb hts nX4_takeSeen_X4 tyX4 tyX4_ok nmX4 hown hK hP hD hS 0 rfl rfl 23 (by decide) (hts _ mX4_takeSeen_f134) (fun _ h9 => h9) rfl (by decide +kernel) rfl rfl (Nat.le_of_ble_eq_true rfl) dX4_takeSeen_38 (fun H locs hP hD hS => ?_)
      rw [wd4_I23] at hP hD
      refine lv_iinc (v := x1 + (1 : Int32)) (lv' := [(1, .int (x1 + (1 : Int32))), (0, .ref h)]) hx hb dX4_takeSeen_41 hl (k := 1) rfl rfl (by decide) rfl (fun ls hl => ?_)
      refine lv_goto (tgt := 7) hx hb dX4_takeSeen_44 (by decide) ?_
      exact hq _ _ ls hP hD hS (lv_sub hl [1, 0] rfl)
  have hl := lv_entry ([.ref h]) (n := 2) (Nat.le_of_ble_eq_true rfl)
  rw [lg_entry_eq]
  generalize (lg_sl ([.ref h]) ++ List.replicate (2 - (lg_sl ([.ref h])).length) Slot.unset).toArray = ls at hl ⊢
  have hl : lv_has ls 2 [(0, .ref h)] := hl
  refine lv_aload_n hx hb dX4_takeSeen_0 rfl (lv_at hl 0 rfl) ?_
  refine lv_iconst (v := (0 : Int32)) hx hb dX4_takeSeen_1 (by decide) ?_
  refine va_put (D := (dC, dI)) (ci := 4) (v := .int (0 : Int32)) (ty := .int) (C := RX4) (T := TX4) (N := 27) hx hb hts nX4_takeSeen_X4 tyX4 tyX4_ok nmX4 hown hK hP hD hS 0 rfl rfl 23 (by decide) (hts _ mX4_takeSeen_f134) (fun _ h9 => h9) rfl (by decide +kernel) rfl rfl (Nat.le_of_ble_eq_true rfl) dX4_takeSeen_2 (fun H locs hP hD hS => ?_)
  rw [wd4_I23] at hP hD
  refine lv_iconst (v := (0 : Int32)) hx hb dX4_takeSeen_5 (by decide) ?_
  refine lv_istore_n (lv' := [(1, .int (0 : Int32)), (0, .ref h)]) hx hb dX4_takeSeen_6 rfl hl (by decide) rfl (fun ls hl => ?_)
  exact hq _ hZ _ _ ls hP hD hS (lv_sub hl [1, 0] rfl)
