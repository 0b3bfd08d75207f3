def zX4_why (post : Int32 → Prop) (p1 : Int32) (I : Nat → Int32) (R : Nat → Nat → Int32) (X7 : Int32 → Int32 → Int32 → Prop) (X37 : Int32 → Int32 → Int32 → Int32 → Int32 → Prop) (X90 : Int32 → Int32 → Int32 → Int32 → Prop) : Prop :=
  (∀ (x2 : Int32) (x3 : Int32) (x4 : Int32), ((((I 2) ≤ x4) → (((x3 ≤ 0) → (post x2)) ∧ ((¬ x3 ≤ 0) → (post x3)))) ∧ ((¬ (I 2) ≤ x4) → (((¬ (((I 23) >>> (x4 &&& 31)) &&& (1 : Int32)) = 0) → (X37 x2 x3 x4 (0 : Int32) (0 : Int32))) ∧ (((((I 23) >>> (x4 &&& 31)) &&& (1 : Int32)) = 0) → (X7 x2 x3 (x4 + (1 : Int32))))))) → X7 x2 x3 x4) ∧
  (∀ (x2 : Int32) (x3 : Int32) (x4 : Int32) (x5 : Int32) (x6 : Int32), ((((I 11) ≤ x6) → ((((I 13) ≤ x5) → (X90 x2 x3 x4 x5)) ∧ ((¬ (I 13) ≤ x5) → (X90 x2 (2 : Int32) x4 x5)))) ∧ ((¬ (I 11) ≤ x6) → (((¬ ((p1 >>> (x6 &&& 31)) &&& (1 : Int32)) = (1 : Int32)) → (X37 x2 x3 x4 x5 (x6 + (1 : Int32)))) ∧ ((((p1 >>> (x6 &&& 31)) &&& (1 : Int32)) = (1 : Int32)) → (vp_in x6 14 ∧ (∀ x5_2 : Int32, x5_2 = x5 + (((R 22 x6.toNatClampNeg) >>> (x4 &&& 31)) &&& (1 : Int32)) → (X37 x2 x3 x4 x5_2 (x6 + (1 : Int32))))))))) → X37 x2 x3 x4 x5 x6) ∧
  (∀ (x2 : Int32) (x3 : Int32) (x4 : Int32) (x5 : Int32), (((x5 ≤ (I 14)) → (X7 x2 x3 (x4 + (1 : Int32)))) ∧ ((¬ x5 ≤ (I 14)) → (X7 (3 : Int32) x3 (x4 + (1 : Int32))))) → X90 x2 x3 x4 x5)
def qX4_why_7 (post : Int32 → Prop) (p1 : Int32) (I : Nat → Int32) (R : Nat → Nat → Int32) (x2 : Int32) (x3 : Int32) (x4 : Int32) : Prop := ∀ (X7 : Int32 → Int32 → Int32 → Prop) (X37 : Int32 → Int32 → Int32 → Int32 → Int32 → Prop) (X90 : Int32 → Int32 → Int32 → Int32 → Prop), zX4_why post p1 I R X7 X37 X90 → X7 x2 x3 x4
def qX4_why_37 (post : Int32 → Prop) (p1 : Int32) (I : Nat → Int32) (R : Nat → Nat → Int32) (x2 : Int32) (x3 : Int32) (x4 : Int32) (x5 : Int32) (x6 : Int32) : Prop := ∀ (X7 : Int32 → Int32 → Int32 → Prop) (X37 : Int32 → Int32 → Int32 → Int32 → Int32 → Prop) (X90 : Int32 → Int32 → Int32 → Int32 → Prop), zX4_why post p1 I R X7 X37 X90 → X37 x2 x3 x4 x5 x6
def qX4_why_90 (post : Int32 → Prop) (p1 : Int32) (I : Nat → Int32) (R : Nat → Nat → Int32) (x2 : Int32) (x3 : Int32) (x4 : Int32) (x5 : Int32) : Prop := ∀ (X7 : Int32 → Int32 → Int32 → Prop) (X37 : Int32 → Int32 → Int32 → Int32 → Int32 → Prop) (X90 : Int32 → Int32 → Int32 → Int32 → Prop), zX4_why post p1 I R X7 X37 X90 → X90 x2 x3 x4 x5
theorem kX4_why_7 {post : Int32 → Prop} {p1 : Int32} {I : Nat → Int32} {R : Nat → Nat → Int32} {x2 : Int32} {x3 : Int32} {x4 : Int32} (h : (((I 2) ≤ x4) → (((x3 ≤ 0) → (post x2)) ∧ ((¬ x3 ≤ 0) → (post x3)))) ∧ ((¬ (I 2) ≤ x4) → (((¬ (((I 23) >>> (x4 &&& 31)) &&& (1 : Int32)) = 0) → (qX4_why_37 post p1 I R x2 x3 x4 (0 : Int32) (0 : Int32))) ∧ (((((I 23) >>> (x4 &&& 31)) &&& (1 : Int32)) = 0) → (qX4_why_7 post p1 I R x2 x3 (x4 + (1 : Int32))))))) : qX4_why_7 post p1 I R x2 x3 x4 := by
  intro Z7 Z37 Z90 hcl
  refine hcl.1 x2 x3 x4 ?_
  refine ⟨fun c => ?_, fun c => ?_⟩
  · have h := h.1 c
    refine ⟨fun c => ?_, fun c => ?_⟩
    · have h := h.1 c
      exact h
    · have h := h.2 c
      exact h
  · have h := h.2 c
    refine ⟨fun c => ?_, fun c => ?_⟩
    · have h := h.1 c
      exact h _ _ _ hcl
    · have h := h.2 c
      exact h _ _ _ hcl
theorem kX4_why_37 {post : Int32 → Prop} {p1 : Int32} {I : Nat → Int32} {R : Nat → Nat → Int32} {x2 : Int32} {x3 : Int32} {x4 : Int32} {x5 : Int32} {x6 : Int32} (h : (((I 11) ≤ x6) → ((((I 13) ≤ x5) → (qX4_why_90 post p1 I R x2 x3 x4 x5)) ∧ ((¬ (I 13) ≤ x5) → (qX4_why_90 post p1 I R x2 (2 : Int32) x4 x5)))) ∧ ((¬ (I 11) ≤ x6) → (((¬ ((p1 >>> (x6 &&& 31)) &&& (1 : Int32)) = (1 : Int32)) → (qX4_why_37 post p1 I R x2 x3 x4 x5 (x6 + (1 : Int32)))) ∧ ((((p1 >>> (x6 &&& 31)) &&& (1 : Int32)) = (1 : Int32)) → (vp_in x6 14 ∧ (∀ x5_2 : Int32, x5_2 = x5 + (((R 22 x6.toNatClampNeg) >>> (x4 &&& 31)) &&& (1 : Int32)) → (qX4_why_37 post p1 I R x2 x3 x4 x5_2 (x6 + (1 : Int32))))))))) : qX4_why_37 post p1 I R x2 x3 x4 x5 x6 := by
  intro Z7 Z37 Z90 hcl
  refine hcl.2.1 x2 x3 x4 x5 x6 ?_
  refine ⟨fun c => ?_, fun c => ?_⟩
  · have h := h.1 c
    refine ⟨fun c => ?_, fun c => ?_⟩
    · have h := h.1 c
      exact h _ _ _ hcl
    · have h := h.2 c
      exact h _ _ _ hcl
  · have h := h.2 c
    refine ⟨fun c => ?_, fun c => ?_⟩
    · have h := h.1 c
      exact h _ _ _ hcl
    · have h := h.2 c
      refine ⟨h.1, ?_⟩
      have h := h.2
      intro x e
      have h := h x e
      exact h _ _ _ hcl
theorem kX4_why_90 {post : Int32 → Prop} {p1 : Int32} {I : Nat → Int32} {R : Nat → Nat → Int32} {x2 : Int32} {x3 : Int32} {x4 : Int32} {x5 : Int32} (h : ((x5 ≤ (I 14)) → (qX4_why_7 post p1 I R x2 x3 (x4 + (1 : Int32)))) ∧ ((¬ x5 ≤ (I 14)) → (qX4_why_7 post p1 I R (3 : Int32) x3 (x4 + (1 : Int32))))) : qX4_why_90 post p1 I R x2 x3 x4 x5 := by
  intro Z7 Z37 Z90 hcl
  refine hcl.2.2 x2 x3 x4 x5 ?_
  refine ⟨fun c => ?_, fun c => ?_⟩
  · have h := h.1 c
    exact h _ _ _ hcl
  · have h := h.2 c
    exact h _ _ _ hcl
def qX4_why (post : Int32 → Prop) (p1 : Int32) (I : Nat → Int32) (R : Nat → Nat → Int32) : Prop := qX4_why_7 post p1 I R (0 : Int32) (0 : Int32) (0 : Int32)
theorem mX4_why_f81 : Cond.fieldLink RX4 81 "YearBookModel" "children" "I" ∈ wsX4_why := by decide +kernel
theorem nX4_why_X4 : ∀ w ∈ u_ws RX4 TX4 27, w ∈ wsX4_why := by decide +kernel
theorem mX4_why_f134 : Cond.fieldLink RX4 134 "YearBookModel" "allShown" "I" ∈ wsX4_why := by decide +kernel
theorem mX4_why_f74 : Cond.fieldLink RX4 74 "YearBookModel" "pictures" "I" ∈ wsX4_why := by decide +kernel
theorem mX4_why_f91 : Cond.fieldLink RX4 91 "YearBookModel" "low" "I" ∈ wsX4_why := by decide +kernel
theorem mX4_why_f59 : Cond.fieldLink RX4 59 "YearBookModel" "seenBits" "[I" ∈ wsX4_why := by decide +kernel
theorem mX4_why_f44 : Cond.fieldLink RX4 44 "YearBookModel" "high" "I" ∈ wsX4_why := by decide +kernel
set_option maxHeartbeats 4000000 in
set_option maxRecDepth 100000 in
theorem tX4_why (l : Launch) (dC : Nat → ClassId) (dI : Nat → Nat → Nat) (cI : ClassId) (h : Nat) (ad : Nat → Nat)  (sz : Nat) (post : Int32 → Prop) (p1 : Int32) (I : Nat → Int32) (R : Nat → Nat → Int32) (hq : qX4_why post p1 I R) : Met l yX4_why wsX4_why ({ frames := 0, cells := 0, slots := 0, locals := 0 } : Room) (va_Pc [.ref h, .int p1] (wPre (dC, dI) vwCl [(cI, .int)] (wd4 cI h ad I R) sz)) (va_Qi (fun r (_ : Unit) => post r ) (wAt (dC, dI) vwCl [(cI, .int)] (va_A (wd4 cI h ad I R) sz) (fun _ : Unit => wd4 cI h ad I R)) (va_A (wd4 cI h ad I R) sz)) 0 0 (va_A (wd4 cI h ad I R) sz) := by
  unfold qX4_why at hq
  refine Met.ofW (cc := cX4_why) (maxL := 7) (ret := (some .int)) (by decide) rfl ?_
  intro p e s m args below meth c s₁ B hml hv
  obtain ⟨rfl, hsz, hP, hK, hD0⟩ := hv
  have hx := B.exec
  have hb := B.bytes
  have hr := B.returns
  have hts := atoms_spec (ws := wsX4_why) B.pre
  have hown : s.vm.findClass RX4 = some m.cls := findClass_of_methodNamed B.named
  have hlocks := B.notSynchronized
  subst hsz
  have hD := hD0.self (sz := s.heap.size)
  generalize hAe : va_A (wd4 cI h ad I R) s.heap.size = A at hD ⊢
  have hA : ∀ q : Nat, s.heap.size ≤ q → A q := fun q h => by rw [← hAe]; exact Or.inr h
  have hS : va_S A s.heap s.heap [] := va_S.rf
  have hZ : zX4_why post p1 I R
      (fun (x2 : Int32) (x3 : Int32) (x4 : Int32) => ∀ (H : Heap) (locs : List Loc) (ls : Array Slot), va_P (dC, dI) vwCl (wd4 cI h ad I R) H → va_D A (wd4 cI h ad I R) → va_S A s.heap H locs → lv_has ls 7 [(0, .ref h), (1, .int p1), (2, .int x2), (3, .int x3), (4, .int x4)] → W p l e (headSpec wsX4_why ({ frames := 0, cells := 0, slots := 0, locals := 0 } : Room)).room s m ([.ref h, .int p1] : List Value).toArray below meth c H locs 0 0 (MQ below (va_Qi (fun r (_ : Unit) => post r ) (wAt (dC, dI) vwCl [(cI, .int)] A (fun _ : Unit => wd4 cI h ad I R)) A) ([.ref h, .int p1] : List Value).toArray s 0 0 A) (F0 m 7 ls []))
      (fun (x2 : Int32) (x3 : Int32) (x4 : Int32) (x5 : Int32) (x6 : Int32) => ∀ (H : Heap) (locs : List Loc) (ls : Array Slot), va_P (dC, dI) vwCl (wd4 cI h ad I R) H → va_D A (wd4 cI h ad I R) → va_S A s.heap H locs → lv_has ls 7 [(0, .ref h), (1, .int p1), (2, .int x2), (3, .int x3), (4, .int x4), (5, .int x5), (6, .int x6)] → W p l e (headSpec wsX4_why ({ frames := 0, cells := 0, slots := 0, locals := 0 } : Room)).room s m ([.ref h, .int p1] : List Value).toArray below meth c H locs 0 0 (MQ below (va_Qi (fun r (_ : Unit) => post r ) (wAt (dC, dI) vwCl [(cI, .int)] A (fun _ : Unit => wd4 cI h ad I R)) A) ([.ref h, .int p1] : List Value).toArray s 0 0 A) (F0 m 37 ls []))
      (fun (x2 : Int32) (x3 : Int32) (x4 : Int32) (x5 : Int32) => ∀ (H : Heap) (locs : List Loc) (ls : Array Slot), va_P (dC, dI) vwCl (wd4 cI h ad I R) H → va_D A (wd4 cI h ad I R) → va_S A s.heap H locs → lv_has ls 7 [(0, .ref h), (1, .int p1), (2, .int x2), (3, .int x3), (4, .int x4), (5, .int x5)] → W p l e (headSpec wsX4_why ({ frames := 0, cells := 0, slots := 0, locals := 0 } : Room)).room s m ([.ref h, .int p1] : List Value).toArray below meth c H locs 0 0 (MQ below (va_Qi (fun r (_ : Unit) => post r ) (wAt (dC, dI) vwCl [(cI, .int)] A (fun _ : Unit => wd4 cI h ad I R)) A) ([.ref h, .int p1] : List Value).toArray s 0 0 A) (F0 m 90 ls [])) := by
    refine ⟨?_, ?_, ?_⟩
    · intro x2 x3 x4 hq H locs ls hP hD hS hl
      refine lv_iload hx hb dX4_why_7 (lv_at hl 4 rfl) ?_
      refine lv_aload_n hx hb dX4_why_9 rfl (lv_at hl 0 rfl) ?_
      refine va_get (D := (dC, dI)) (ci := 4) (v := .int (I 2)) (C := RX4) (T := TX4) (N := 27) hx hb hts nX4_why_X4 hown hK hP 0 rfl rfl 2 (by decide) (hts _ mX4_why_f81) (fun _ h9 => h9) rfl dX4_why_10 ?_
      refine lv_icmp_ge (tgt := 107) hx hb dX4_why_13 (by decide) (fun hc => ?_) (fun hc => ?_)
      · have hq := hq.1 hc
        refine lv_iload_n hx hb dX4_why_107 rfl (lv_at hl 3 rfl) ?_
        refine lv_if_le (tgt := 115) hx hb dX4_why_108 (by decide) (fun hc => ?_) (fun hc => ?_)
        · have hq := hq.1 hc
          refine lv_iload_n hx hb dX4_why_115 rfl (lv_at hl 2 rfl) ?_
          exact w_iret (post := fun r (_ : Unit) => post r ) (wf := fun _ : Unit => wd4 cI h ad I R) (u := ()) hx hb hr hK hP hD hS hq dX4_why_116 hlocks
        · have hq := hq.2 hc
          refine lv_iload_n hx hb dX4_why_111 rfl (lv_at hl 3 rfl) ?_
          refine lv_goto (tgt := 116) hx hb dX4_why_112 (by decide) ?_
          exact w_iret (post := fun r (_ : Unit) => post r ) (wf := fun _ : Unit => wd4 cI h ad I R) (u := ()) hx hb hr hK hP hD hS hq dX4_why_116 hlocks
      · have hq := hq.2 hc
        refine lv_aload_n hx hb dX4_why_16 rfl (lv_at hl 0 rfl) ?_
        refine va_get (D := (dC, dI)) (ci := 4) (v := .int (I 23)) (C := RX4) (T := TX4) (N := 27) hx hb hts nX4_why_X4 hown hK hP 0 rfl rfl 23 (by decide) (hts _ mX4_why_f134) (fun _ h9 => h9) rfl dX4_why_17 ?_
        refine lv_iload hx hb dX4_why_20 (lv_at hl 4 rfl) ?_
        refine lv_ishr hx hb dX4_why_22 ?_
        refine lv_iconst (v := (1 : Int32)) hx hb dX4_why_23 (by decide) ?_
        refine lv_iand hx hb dX4_why_24 ?_
        refine lv_if_ne (tgt := 31) hx hb dX4_why_25 (by decide) (fun hc => ?_) (fun hc => ?_)
        · have hq := hq.1 hc
          refine lv_iconst (v := (0 : Int32)) hx hb dX4_why_31 (by decide) ?_
          refine lv_istore (lv' := [(5, .int (0 : Int32)), (0, .ref h), (1, .int p1), (2, .int x2), (3, .int x3), (4, .int x4)]) hx hb dX4_why_32 hl (by decide) rfl (fun ls hl => ?_)
          refine lv_iconst (v := (0 : Int32)) hx hb dX4_why_34 (by decide) ?_
          refine lv_istore (lv' := [(6, .int (0 : Int32)), (5, .int (0 : Int32)), (0, .ref h), (1, .int p1), (2, .int x2), (3, .int x3), (4, .int x4)]) hx hb dX4_why_35 hl (by decide) rfl (fun ls hl => ?_)
          exact hq _ _ ls hP hD hS (lv_sub hl [2, 3, 4, 5, 6, 1, 0] rfl)
        · have hq := hq.2 hc
          refine lv_goto (tgt := 101) hx hb dX4_why_28 (by decide) ?_
          refine lv_iinc (v := x4 + (1 : Int32)) (lv' := [(4, .int (x4 + (1 : Int32))), (0, .ref h), (1, .int p1), (2, .int x2), (3, .int x3)]) hx hb dX4_why_101 hl (k := 4) rfl rfl (by decide) rfl (fun ls hl => ?_)
          refine lv_goto (tgt := 7) hx hb dX4_why_104 (by decide) ?_
          exact hq _ _ ls hP hD hS (lv_sub hl [1, 2, 3, 4, 0] rfl)
    · intro x2 x3 x4 x5 x6 hq H locs ls hP hD hS hl
      refine lv_iload hx hb dX4_why_37 (lv_at hl 6 rfl) ?_
      refine lv_aload_n hx hb dX4_why_39 rfl (lv_at hl 0 rfl) ?_
      refine va_get (D := (dC, dI)) (ci := 4) (v := .int (I 11)) (C := RX4) (T := TX4) (N := 27) hx hb hts nX4_why_X4 hown hK hP 0 rfl rfl 11 (by decide) (hts _ mX4_why_f74) (fun _ h9 => h9) rfl dX4_why_40 ?_
      refine lv_icmp_ge (tgt := 79) hx hb dX4_why_43 (by decide) (fun hc => ?_) (fun hc => ?_)
      · have hq := hq.1 hc
        refine lv_iload hx hb dX4_why_79 (lv_at hl 5 rfl) ?_
        refine lv_aload_n hx hb dX4_why_81 rfl (lv_at hl 0 rfl) ?_
        refine va_get (D := (dC, dI)) (ci := 4) (v := .int (I 13)) (C := RX4) (T := TX4) (N := 27) hx hb hts nX4_why_X4 hown hK hP 0 rfl rfl 13 (by decide) (hts _ mX4_why_f91) (fun _ h9 => h9) rfl dX4_why_82 ?_
        refine lv_icmp_ge (tgt := 90) hx hb dX4_why_85 (by decide) (fun hc => ?_) (fun hc => ?_)
        · have hq := hq.1 hc
          exact hq _ _ ls hP hD hS (lv_sub hl [0, 1, 2, 3, 4, 5] rfl)
        · have hq := hq.2 hc
          refine lv_iconst (v := (2 : Int32)) hx hb dX4_why_88 (by decide) ?_
          refine lv_istore_n (lv' := [(3, .int (2 : Int32)), (0, .ref h), (1, .int p1), (2, .int x2), (4, .int x4), (5, .int x5), (6, .int x6)]) hx hb dX4_why_89 rfl hl (by decide) rfl (fun ls hl => ?_)
          exact hq _ _ ls hP hD hS (lv_sub hl [1, 2, 3, 0, 4, 5] rfl)
      · have hq := hq.2 hc
        refine lv_iload_n hx hb dX4_why_46 rfl (lv_at hl 1 rfl) ?_
        refine lv_iload hx hb dX4_why_47 (lv_at hl 6 rfl) ?_
        refine lv_ishr hx hb dX4_why_49 ?_
        refine lv_iconst (v := (1 : Int32)) hx hb dX4_why_50 (by decide) ?_
        refine lv_iand hx hb dX4_why_51 ?_
        refine lv_iconst (v := (1 : Int32)) hx hb dX4_why_52 (by decide) ?_
        refine lv_icmp_ne (tgt := 73) hx hb dX4_why_53 (by decide) (fun hc => ?_) (fun hc => ?_)
        · have hq := hq.1 hc
          refine lv_iinc (v := x6 + (1 : Int32)) (lv' := [(6, .int (x6 + (1 : Int32))), (0, .ref h), (1, .int p1), (2, .int x2), (3, .int x3), (4, .int x4), (5, .int x5)]) hx hb dX4_why_73 hl (k := 6) rfl rfl (by decide) rfl (fun ls hl => ?_)
          refine lv_goto (tgt := 37) hx hb dX4_why_76 (by decide) ?_
          exact hq _ _ ls hP hD hS (lv_sub hl [1, 2, 3, 4, 5, 6, 0] rfl)
        · have hq := hq.2 hc
          refine lv_iload hx hb dX4_why_56 (lv_at hl 5 rfl) ?_
          refine lv_aload_n hx hb dX4_why_58 rfl (lv_at hl 0 rfl) ?_
          refine va_get (D := (dC, dI)) (ci := 4) (v := .ref (ad 22)) (C := RX4) (T := TX4) (N := 27) hx hb hts nX4_why_X4 hown hK hP 0 rfl rfl 22 (by decide) (hts _ mX4_why_f59) (fun _ h9 => h9) rfl dX4_why_59 ?_
          refine lv_iload hx hb dX4_why_62 (lv_at hl 6 rfl) ?_
          obtain ⟨hi_1, hq⟩ := hq
          refine va_iald (f := R 22) hx hb hK hP 14 0 rfl rfl hi_1 dX4_why_64 ?_
          refine lv_iload hx hb dX4_why_65 (lv_at hl 4 rfl) ?_
          refine lv_ishr hx hb dX4_why_67 ?_
          refine lv_iconst (v := (1 : Int32)) hx hb dX4_why_68 (by decide) ?_
          refine lv_iand hx hb dX4_why_69 ?_
          refine lv_iadd hx hb dX4_why_70 ?_
          refine lv_topi (fun x5_2 ex5_2 => ?_)
          have hq := hq x5_2 ex5_2
          refine lv_istore (lv' := [(5, .int x5_2), (0, .ref h), (1, .int p1), (2, .int x2), (3, .int x3), (4, .int x4), (6, .int x6)]) hx hb dX4_why_71 hl (by decide) rfl (fun ls hl => ?_)
          refine lv_iinc (v := x6 + (1 : Int32)) (lv' := [(6, .int (x6 + (1 : Int32))), (5, .int x5_2), (0, .ref h), (1, .int p1), (2, .int x2), (3, .int x3), (4, .int x4)]) hx hb dX4_why_73 hl (k := 6) rfl rfl (by decide) rfl (fun ls hl => ?_)
          refine lv_goto (tgt := 37) hx hb dX4_why_76 (by decide) ?_
          exact hq _ _ ls hP hD hS (lv_sub hl [2, 3, 4, 5, 6, 1, 0] rfl)
    · intro x2 x3 x4 x5 hq H locs ls hP hD hS hl
      refine lv_iload hx hb dX4_why_90 (lv_at hl 5 rfl) ?_
      refine lv_aload_n hx hb dX4_why_92 rfl (lv_at hl 0 rfl) ?_
      refine va_get (D := (dC, dI)) (ci := 4) (v := .int (I 14)) (C := RX4) (T := TX4) (N := 27) hx hb hts nX4_why_X4 hown hK hP 0 rfl rfl 14 (by decide) (hts _ mX4_why_f44) (fun _ h9 => h9) rfl dX4_why_93 ?_
      refine lv_icmp_le (tgt := 101) hx hb dX4_why_96 (by decide) (fun hc => ?_) (fun hc => ?_)
      · have hq := hq.1 hc
        refine lv_iinc (v := x4 + (1 : Int32)) (lv' := [(4, .int (x4 + (1 : Int32))), (0, .ref h), (1, .int p1), (2, .int x2), (3, .int x3), (5, .int x5)]) hx hb dX4_why_101 hl (k := 4) rfl rfl (by decide) rfl (fun ls hl => ?_)
        refine lv_goto (tgt := 7) hx hb dX4_why_104 (by decide) ?_
        exact hq _ _ ls hP hD hS (lv_sub hl [1, 2, 3, 4, 0] rfl)
      · have hq := hq.2 hc
        refine lv_iconst (v := (3 : Int32)) hx hb dX4_why_99 (by decide) ?_
        refine lv_istore_n (lv' := [(2, .int (3 : Int32)), (0, .ref h), (1, .int p1), (3, .int x3), (4, .int x4), (5, .int x5)]) hx hb dX4_why_100 rfl hl (by decide) rfl (fun ls hl => ?_)
        refine lv_iinc (v := x4 + (1 : Int32)) (lv' := [(4, .int (x4 + (1 : Int32))), (2, .int (3 : Int32)), (0, .ref h), (1, .int p1), (3, .int x3), (5, .int x5)]) hx hb dX4_why_101 hl (k := 4) rfl rfl (by decide) rfl (fun ls hl => ?_)
        refine lv_goto (tgt := 7) hx hb dX4_why_104 (by decide) ?_
        exact hq _ _ ls hP hD hS (lv_sub hl [2, 3, 1, 4, 0] rfl)
  have hl := lv_entry ([.ref h, .int p1]) (n := 7) (Nat.le_of_ble_eq_true rfl)
  rw [lg_entry_eq]
  generalize (lg_sl ([.ref h, .int p1]) ++ List.replicate (7 - (lg_sl ([.ref h, .int p1])).length) Slot.unset).toArray = ls at hl ⊢
  have hl : lv_has ls 7 [(0, .ref h), (1, .int p1)] := hl
  refine lv_iconst (v := (0 : Int32)) hx hb dX4_why_0 (by decide) ?_
  refine lv_istore_n (lv' := [(2, .int (0 : Int32)), (0, .ref h), (1, .int p1)]) hx hb dX4_why_1 rfl hl (by decide) rfl (fun ls hl => ?_)
  refine lv_iconst (v := (0 : Int32)) hx hb dX4_why_2 (by decide) ?_
  refine lv_istore_n (lv' := [(3, .int (0 : Int32)), (2, .int (0 : Int32)), (0, .ref h), (1, .int p1)]) hx hb dX4_why_3 rfl hl (by decide) rfl (fun ls hl => ?_)
  refine lv_iconst (v := (0 : Int32)) hx hb dX4_why_4 (by decide) ?_
  refine lv_istore (lv' := [(4, .int (0 : Int32)), (3, .int (0 : Int32)), (2, .int (0 : Int32)), (0, .ref h), (1, .int p1)]) hx hb dX4_why_5 hl (by decide) rfl (fun ls hl => ?_)
  exact hq _ _ _ hZ _ _ ls hP hD hS (lv_sub hl [3, 4, 2, 1, 0] rfl)
def zX4_sum (post : Int32 → Prop) (p1 : Int32) (I : Nat → Int32) (R : Nat → Nat → Int32) (X4 : Int32 → Int32 → Prop) : Prop :=
  (∀ (x2 : Int32) (x3 : Int32), ((((I 11) ≤ x3) → (post x2)) ∧ ((¬ (I 11) ≤ x3) → (((¬ ((p1 >>> (x3 &&& 31)) &&& (1 : Int32)) = (1 : Int32)) → (X4 x2 (x3 + (1 : Int32)))) ∧ ((((p1 >>> (x3 &&& 31)) &&& (1 : Int32)) = (1 : Int32)) → (vp_in x3 14 ∧ (∀ x2_2 : Int32, x2_2 = x2 + (R 4 x3.toNatClampNeg) → (X4 x2_2 (x3 + (1 : Int32))))))))) → X4 x2 x3)
def qX4_sum_4 (post : Int32 → Prop) (p1 : Int32) (I : Nat → Int32) (R : Nat → Nat → Int32) (x2 : Int32) (x3 : Int32) : Prop := ∀ (X4 : Int32 → Int32 → Prop), zX4_sum post p1 I R X4 → X4 x2 x3
theorem kX4_sum_4 {post : Int32 → Prop} {p1 : Int32} {I : Nat → Int32} {R : Nat → Nat → Int32} {x2 : Int32} {x3 : Int32} (h : (((I 11) ≤ x3) → (post x2)) ∧ ((¬ (I 11) ≤ x3) → (((¬ ((p1 >>> (x3 &&& 31)) &&& (1 : Int32)) = (1 : Int32)) → (qX4_sum_4 post p1 I R x2 (x3 + (1 : Int32)))) ∧ ((((p1 >>> (x3 &&& 31)) &&& (1 : Int32)) = (1 : Int32)) → (vp_in x3 14 ∧ (∀ x2_2 : Int32, x2_2 = x2 + (R 4 x3.toNatClampNeg) → (qX4_sum_4 post p1 I R x2_2 (x3 + (1 : Int32))))))))) : qX4_sum_4 post p1 I R x2 x3 := by
  intro Z4 hcl
  refine hcl x2 x3 ?_
  refine ⟨fun c => ?_, fun c => ?_⟩
  · have h := h.1 c
    exact h
  · have h := h.2 c
    refine ⟨fun c => ?_, fun c => ?_⟩
    · have h := h.1 c
      exact h _ hcl
    · have h := h.2 c
      refine ⟨h.1, ?_⟩
      have h := h.2
      intro x e
      have h := h x e
      exact h _ hcl
def qX4_sum (post : Int32 → Prop) (p1 : Int32) (I : Nat → Int32) (R : Nat → Nat → Int32) : Prop := qX4_sum_4 post p1 I R (0 : Int32) (0 : Int32)
theorem mX4_sum_f74 : Cond.fieldLink RX4 74 "YearBookModel" "pictures" "I" ∈ wsX4_sum := by decide +kernel
theorem nX4_sum_X4 : ∀ w ∈ u_ws RX4 TX4 27, w ∈ wsX4_sum := by decide +kernel
theorem mX4_sum_f19 : Cond.fieldLink RX4 19 "YearBookModel" "worth" "[I" ∈ wsX4_sum := by decide +kernel
set_option maxHeartbeats 4000000 in
set_option maxRecDepth 100000 in
theorem tX4_sum (l : Launch) (dC : Nat → ClassId) (dI : Nat → Nat → Nat) (cI : ClassId) (h : Nat) (ad : Nat → Nat)  (sz : Nat) (post : Int32 → Prop) (p1 : Int32) (I : Nat → Int32) (R : Nat → Nat → Int32) (hq : qX4_sum post p1 I R) : Met l yX4_sum wsX4_sum ({ frames := 0, cells := 0, slots := 0, locals := 0 } : Room) (va_Pc [.ref h, .int p1] (wPre (dC, dI) vwCl [(cI, .int)] (wd4 cI h ad I R) sz)) (va_Qi (fun r (_ : Unit) => post r ) (wAt (dC, dI) vwCl [(cI, .int)] (va_A (wd4 cI h ad I R) sz) (fun _ : Unit => wd4 cI h ad I R)) (va_A (wd4 cI h ad I R) sz)) 0 0 (va_A (wd4 cI h ad I R) sz) := by
  unfold qX4_sum at hq
  refine Met.ofW (cc := cX4_sum) (maxL := 4) (ret := (some .int)) (by decide) rfl ?_
  intro p e s m args below meth c s₁ B hml hv
  obtain ⟨rfl, hsz, hP, hK, hD0⟩ := hv
  have hx := B.exec
  have hb := B.bytes
  have hr := B.returns
  have hts := atoms_spec (ws := wsX4_sum) B.pre
  have hown : s.vm.findClass RX4 = some m.cls := findClass_of_methodNamed B.named
  have hlocks := B.notSynchronized
  subst hsz
  have hD := hD0.self (sz := s.heap.size)
  generalize hAe : va_A (wd4 cI h ad I R) s.heap.size = A at hD ⊢
  have hA : ∀ q : Nat, s.heap.size ≤ q → A q := fun q h => by rw [← hAe]; exact Or.inr h
  have hS : va_S A s.heap s.heap [] := va_S.rf
  have hZ : zX4_sum post p1 I R
      (fun (x2 : Int32) (x3 : Int32) => ∀ (H : Heap) (locs : List Loc) (ls : Array Slot), va_P (dC, dI) vwCl (wd4 cI h ad I R) H → va_D A (wd4 cI h ad I R) → va_S A s.heap H locs → lv_has ls 4 [(0, .ref h), (1, .int p1), (2, .int x2), (3, .int x3)] → W p l e (headSpec wsX4_sum ({ frames := 0, cells := 0, slots := 0, locals := 0 } : Room)).room s m ([.ref h, .int p1] : List Value).toArray below meth c H locs 0 0 (MQ below (va_Qi (fun r (_ : Unit) => post r ) (wAt (dC, dI) vwCl [(cI, .int)] A (fun _ : Unit => wd4 cI h ad I R)) A) ([.ref h, .int p1] : List Value).toArray s 0 0 A) (F0 m 4 ls [])) := by
    unfold zX4_sum
    intro x2 x3 hq H locs ls hP hD hS hl
    refine lv_iload_n hx hb dX4_sum_4 rfl (lv_at hl 3 rfl) ?_
    refine lv_aload_n hx hb dX4_sum_5 rfl (lv_at hl 0 rfl) ?_
    refine va_get (D := (dC, dI)) (ci := 4) (v := .int (I 11)) (C := RX4) (T := TX4) (N := 27) hx hb hts nX4_sum_X4 hown hK hP 0 rfl rfl 11 (by decide) (hts _ mX4_sum_f74) (fun _ h9 => h9) rfl dX4_sum_6 ?_
    refine lv_icmp_ge (tgt := 36) hx hb dX4_sum_9 (by decide) (fun hc => ?_) (fun hc => ?_)
    · have hq := hq.1 hc
      refine lv_iload_n hx hb dX4_sum_36 rfl (lv_at hl 2 rfl) ?_
      exact w_iret (post := fun r (_ : Unit) => post r ) (wf := fun _ : Unit => wd4 cI h ad I R) (u := ()) hx hb hr hK hP hD hS hq dX4_sum_37 hlocks
    · have hq := hq.2 hc
      refine lv_iload_n hx hb dX4_sum_12 rfl (lv_at hl 1 rfl) ?_
      refine lv_iload_n hx hb dX4_sum_13 rfl (lv_at hl 3 rfl) ?_
      refine lv_ishr hx hb dX4_sum_14 ?_
      refine lv_iconst (v := (1 : Int32)) hx hb dX4_sum_15 (by decide) ?_
      refine lv_iand hx hb dX4_sum_16 ?_
      refine lv_iconst (v := (1 : Int32)) hx hb dX4_sum_17 (by decide) ?_
      refine lv_icmp_ne (tgt := 30) hx hb dX4_sum_18 (by decide) (fun hc => ?_) (fun hc => ?_)
      · have hq := hq.1 hc
        refine lv_iinc (v := x3 + (1 : Int32)) (lv' := [(3, .int (x3 + (1 : Int32))), (0, .ref h), (1, .int p1), (2, .int x2)]) hx hb dX4_sum_30 hl (k := 3) rfl rfl (by decide) rfl (fun ls hl => ?_)
        refine lv_goto (tgt := 4) hx hb dX4_sum_33 (by decide) ?_
        exact hq _ _ ls hP hD hS (lv_sub hl [1, 2, 3, 0] rfl)
      · have hq := hq.2 hc
        refine lv_iload_n hx hb dX4_sum_21 rfl (lv_at hl 2 rfl) ?_
        refine lv_aload_n hx hb dX4_sum_22 rfl (lv_at hl 0 rfl) ?_
        refine va_get (D := (dC, dI)) (ci := 4) (v := .ref (ad 4)) (C := RX4) (T := TX4) (N := 27) hx hb hts nX4_sum_X4 hown hK hP 0 rfl rfl 4 (by decide) (hts _ mX4_sum_f19) (fun _ h9 => h9) rfl dX4_sum_23 ?_
        refine lv_iload_n hx hb dX4_sum_26 rfl (lv_at hl 3 rfl) ?_
        obtain ⟨hi_1, hq⟩ := hq
        refine va_iald (f := R 4) hx hb hK hP 4 0 rfl rfl hi_1 dX4_sum_27 ?_
        refine lv_iadd hx hb dX4_sum_28 ?_
        refine lv_topi (fun x2_2 ex2_2 => ?_)
        have hq := hq x2_2 ex2_2
        refine lv_istore_n (lv' := [(2, .int x2_2), (0, .ref h), (1, .int p1), (3, .int x3)]) hx hb dX4_sum_29 rfl hl (by decide) rfl (fun ls hl => ?_)
        refine lv_iinc (v := x3 + (1 : Int32)) (lv' := [(3, .int (x3 + (1 : Int32))), (2, .int x2_2), (0, .ref h), (1, .int p1)]) hx hb dX4_sum_30 hl (k := 3) rfl rfl (by decide) rfl (fun ls hl => ?_)
        refine lv_goto (tgt := 4) hx hb dX4_sum_33 (by decide) ?_
        exact hq _ _ ls hP hD hS (lv_sub hl [2, 3, 1, 0] rfl)
  have hl := lv_entry ([.ref h, .int p1]) (n := 4) (Nat.le_of_ble_eq_true rfl)
  rw [lg_entry_eq]
  generalize (lg_sl ([.ref h, .int p1]) ++ List.replicate (4 - (lg_sl ([.ref h, .int p1])).length) Slot.unset).toArray = ls at hl ⊢
  have hl : lv_has ls 4 [(0, .ref h), (1, .int p1)] := hl
  refine lv_iconst (v := (0 : Int32)) hx hb dX4_sum_0 (by decide) ?_
  refine lv_istore_n (lv' := [(2, .int (0 : Int32)), (0, .ref h), (1, .int p1)]) hx hb dX4_sum_1 rfl hl (by decide) rfl (fun ls hl => ?_)
  refine lv_iconst (v := (0 : Int32)) hx hb dX4_sum_2 (by decide) ?_
  refine lv_istore_n (lv' := [(3, .int (0 : Int32)), (2, .int (0 : Int32)), (0, .ref h), (1, .int p1)]) hx hb dX4_sum_3 rfl hl (by decide) rfl (fun ls hl => ?_)
  exact hq _ hZ _ _ ls hP hD hS (lv_sub hl [2, 3, 1, 0] rfl)
def zX4_isAhead (post : Int32 → Prop) (p1 : Int32) (p2 : Int32) (p3 : Int32) (I : Nat → Int32) (R : Nat → Nat → Int32) (X17 : Int32 → Prop) (X36 : Int32 → Int32 → Prop) : Prop :=
  (∀ (k0 : Int32), (((p3 = 0) → (X36 k0 (0 : Int32))) ∧ ((¬ p3 = 0) → (∃ Pc_2 : Int32 → Prop, qJ6_bitCount_0f7a4 Pc_2 (p2 ^^^ (I 16)) ∧ (∀ (rc_2 : Int32), Pc_2 rc_2 → (X36 k0 rc_2))))) → X17 k0) ∧
  (∀ (x4 : Int32) (k0 : Int32), (((x4 = k0) → (∃ Pc_3 : Int32 → Prop, qX4_sum Pc_3 p1 I R ∧ (∀ (rc_3 : Int32), Pc_3 rc_3 → (∃ Pc_4 : Int32 → Prop, qX4_sum Pc_4 p2 I R ∧ (∀ (rc_4 : Int32), Pc_4 rc_4 → (((rc_3 = rc_4) → (∃ Pc_5 : Int32 → Prop, qJ6_bitCount_0f7a4 Pc_5 p1 ∧ (∀ (rc_5 : Int32), Pc_5 rc_5 → (∃ Pc_6 : Int32 → Prop, qJ6_bitCount_0f7a4 Pc_6 p2 ∧ (∀ (rc_6 : Int32), Pc_6 rc_6 → (((rc_6 ≤ rc_5) → (post (0 : Int32))) ∧ ((¬ rc_6 ≤ rc_5) → (post (1 : Int32))))))))) ∧ ((¬ rc_3 = rc_4) → (∃ Pc_7 : Int32 → Prop, qX4_sum Pc_7 p1 I R ∧ (∀ (rc_7 : Int32), Pc_7 rc_7 → (∃ Pc_8 : Int32 → Prop, qX4_sum Pc_8 p2 I R ∧ (∀ (rc_8 : Int32), Pc_8 rc_8 → (((rc_7 ≤ rc_8) → (post (0 : Int32))) ∧ ((¬ rc_7 ≤ rc_8) → (post (1 : Int32))))))))))))))) ∧ ((¬ x4 = k0) → (((k0 ≤ x4) → (post (0 : Int32))) ∧ ((¬ k0 ≤ x4) → (post (1 : Int32)))))) → X36 x4 k0)
def qX4_isAhead_17 (post : Int32 → Prop) (p1 : Int32) (p2 : Int32) (p3 : Int32) (I : Nat → Int32) (R : Nat → Nat → Int32) (k0 : Int32) : Prop := ∀ (X17 : Int32 → Prop) (X36 : Int32 → Int32 → Prop), zX4_isAhead post p1 p2 p3 I R X17 X36 → X17 k0
def qX4_isAhead_36 (post : Int32 → Prop) (p1 : Int32) (p2 : Int32) (p3 : Int32) (I : Nat → Int32) (R : Nat → Nat → Int32) (x4 : Int32) (k0 : Int32) : Prop := ∀ (X17 : Int32 → Prop) (X36 : Int32 → Int32 → Prop), zX4_isAhead post p1 p2 p3 I R X17 X36 → X36 x4 k0
theorem kX4_isAhead_17 {post : Int32 → Prop} {p1 : Int32} {p2 : Int32} {p3 : Int32} {I : Nat → Int32} {R : Nat → Nat → Int32} {k0 : Int32} (h : ((p3 = 0) → (qX4_isAhead_36 post p1 p2 p3 I R k0 (0 : Int32))) ∧ ((¬ p3 = 0) → (∃ Pc_2 : Int32 → Prop, qJ6_bitCount_0f7a4 Pc_2 (p2 ^^^ (I 16)) ∧ (∀ (rc_2 : Int32), Pc_2 rc_2 → (qX4_isAhead_36 post p1 p2 p3 I R k0 rc_2))))) : qX4_isAhead_17 post p1 p2 p3 I R k0 := by
  intro Z17 Z36 hcl
  refine hcl.1 k0 ?_
  refine ⟨fun c => ?_, fun c => ?_⟩
  · have h := h.1 c
    exact h _ _ hcl
  · have h := h.2 c
    obtain ⟨P, h1, h2⟩ := h
    refine ⟨P, h1, fun b0 hp => ?_⟩
    have h := h2 b0 hp
    exact h _ _ hcl
theorem kX4_isAhead_36 {post : Int32 → Prop} {p1 : Int32} {p2 : Int32} {p3 : Int32} {I : Nat → Int32} {R : Nat → Nat → Int32} {x4 : Int32} {k0 : Int32} (h : ((x4 = k0) → (∃ Pc_3 : Int32 → Prop, qX4_sum Pc_3 p1 I R ∧ (∀ (rc_3 : Int32), Pc_3 rc_3 → (∃ Pc_4 : Int32 → Prop, qX4_sum Pc_4 p2 I R ∧ (∀ (rc_4 : Int32), Pc_4 rc_4 → (((rc_3 = rc_4) → (∃ Pc_5 : Int32 → Prop, qJ6_bitCount_0f7a4 Pc_5 p1 ∧ (∀ (rc_5 : Int32), Pc_5 rc_5 → (∃ Pc_6 : Int32 → Prop, qJ6_bitCount_0f7a4 Pc_6 p2 ∧ (∀ (rc_6 : Int32), Pc_6 rc_6 → (((rc_6 ≤ rc_5) → (post (0 : Int32))) ∧ ((¬ rc_6 ≤ rc_5) → (post (1 : Int32))))))))) ∧ ((¬ rc_3 = rc_4) → (∃ Pc_7 : Int32 → Prop, qX4_sum Pc_7 p1 I R ∧ (∀ (rc_7 : Int32), Pc_7 rc_7 → (∃ Pc_8 : Int32 → Prop, qX4_sum Pc_8 p2 I R ∧ (∀ (rc_8 : Int32), Pc_8 rc_8 → (((rc_7 ≤ rc_8) → (post (0 : Int32))) ∧ ((¬ rc_7 ≤ rc_8) → (post (1 : Int32))))))))))))))) ∧ ((¬ x4 = k0) → (((k0 ≤ x4) → (post (0 : Int32))) ∧ ((¬ k0 ≤ x4) → (post (1 : Int32)))))) : qX4_isAhead_36 post p1 p2 p3 I R x4 k0 := by
  intro Z17 Z36 hcl
  refine hcl.2 x4 k0 ?_
  refine ⟨fun c => ?_, fun c => ?_⟩
  · have h := h.1 c
    obtain ⟨P, h1, h2⟩ := h
    refine ⟨P, h1, fun b0 hp => ?_⟩
    have h := h2 b0 hp
    obtain ⟨P, h1, h2⟩ := h
    refine ⟨P, h1, fun b0 hp => ?_⟩
    have h := h2 b0 hp
    refine ⟨fun c => ?_, fun c => ?_⟩
    · have h := h.1 c
      obtain ⟨P, h1, h2⟩ := h
      refine ⟨P, h1, fun b0 hp => ?_⟩
      have h := h2 b0 hp
      obtain ⟨P, h1, h2⟩ := h
      refine ⟨P, h1, fun b0 hp => ?_⟩
      have h := h2 b0 hp
      refine ⟨fun c => ?_, fun c => ?_⟩
      · have h := h.1 c
        exact h
      · have h := h.2 c
        exact h
    · have h := h.2 c
      obtain ⟨P, h1, h2⟩ := h
      refine ⟨P, h1, fun b0 hp => ?_⟩
      have h := h2 b0 hp
      obtain ⟨P, h1, h2⟩ := h
      refine ⟨P, h1, fun b0 hp => ?_⟩
      have h := h2 b0 hp
      refine ⟨fun c => ?_, fun c => ?_⟩
      · have h := h.1 c
        exact h
      · have h := h.2 c
        exact h
  · have h := h.2 c
    refine ⟨fun c => ?_, fun c => ?_⟩
    · have h := h.1 c
      exact h
    · have h := h.2 c
      exact h
def qX4_isAhead (post : Int32 → Prop) (p1 : Int32) (p2 : Int32) (p3 : Int32) (I : Nat → Int32) (R : Nat → Nat → Int32) : Prop := ((p3 = 0) → (qX4_isAhead_17 post p1 p2 p3 I R (0 : Int32))) ∧ ((¬ p3 = 0) → (∃ Pc_1 : Int32 → Prop, qJ6_bitCount_0f7a4 Pc_1 (p1 ^^^ (I 16)) ∧ (∀ (rc_1 : Int32), Pc_1 rc_1 → (qX4_isAhead_17 post p1 p2 p3 I R rc_1))))
theorem mX4_isAhead_f108 : Cond.fieldLink RX4 108 "YearBookModel" "choice" "I" ∈ wsX4_isAhead := by decide +kernel
theorem nX4_isAhead_X4 : ∀ w ∈ u_ws RX4 TX4 27, w ∈ wsX4_isAhead := by decide +kernel
set_option maxHeartbeats 4000000 in
set_option maxRecDepth 100000 in
theorem tX4_isAhead (l : Launch) (dC : Nat → ClassId) (dI : Nat → Nat → Nat) (cI : ClassId) (h : Nat) (ad : Nat → Nat)  (sz : Nat) (post : Int32 → Prop) (p1 : Int32) (p2 : Int32) (p3 : Int32) (I : Nat → Int32) (R : Nat → Nat → Int32) (hq : qX4_isAhead post p1 p2 p3 I R) : Met l yX4_isAhead wsX4_isAhead ({ frames := 1, cells := 0, slots := 0, locals := 23 } : Room) (va_Pc [.ref h, .int p1, .int p2, .int p3] (wPre (dC, dI) vwCl [(cI, .int)] (wd4 cI h ad I R) sz)) (va_Qi (fun r (_ : Unit) => post r ) (wAt (dC, dI) vwCl [(cI, .int)] (va_A (wd4 cI h ad I R) sz) (fun _ : Unit => wd4 cI h ad I R)) (va_A (wd4 cI h ad I R) sz)) 0 0 (va_A (wd4 cI h ad I R) sz) := by
  unfold qX4_isAhead at hq
  refine Met.ofW (cc := cX4_isAhead) (maxL := 6) (ret := (some .boolean)) (by decide) rfl ?_
  intro p e s m args below meth c s₁ B hml hv
  obtain ⟨rfl, hsz, hP, hK, hD0⟩ := hv
  have hx := B.exec
  have hb := B.bytes
  have hr := B.returns
  have hts := atoms_spec (ws := wsX4_isAhead) B.pre
  have hown : s.vm.findClass RX4 = some m.cls := findClass_of_methodNamed B.named
  have hlocks := B.notSynchronized
  subst hsz
  have hD := hD0.self (sz := s.heap.size)
  generalize hAe : va_A (wd4 cI h ad I R) s.heap.size = A at hD ⊢
  have hA : ∀ q : Nat, s.heap.size ≤ q → A q := fun q h => by rw [← hAe]; exact Or.inr h
  have hS : va_S A s.heap s.heap [] := va_S.rf
  have hZ : zX4_isAhead post p1 p2 p3 I R
      (fun (k0 : Int32) => ∀ (H : Heap) (locs : List Loc) (ls : Array Slot), va_P (dC, dI) vwCl (wd4 cI h ad I R) H → va_D A (wd4 cI h ad I R) → va_S A s.heap H locs → lv_has ls 6 [(0, .ref h), (1, .int p1), (2, .int p2), (3, .int p3)] → W p l e (headSpec wsX4_isAhead ({ frames := 1, cells := 0, slots := 0, locals := 23 } : Room)).room s m ([.ref h, .int p1, .int p2, .int p3] : List Value).toArray below meth c H locs 0 0 (MQ below (va_Qi (fun r (_ : Unit) => post r ) (wAt (dC, dI) vwCl [(cI, .int)] A (fun _ : Unit => wd4 cI h ad I R)) A) ([.ref h, .int p1, .int p2, .int p3] : List Value).toArray s 0 0 A) (F0 m 17 ls [.int k0]))
      (fun (x4 : Int32) (k0 : Int32) => ∀ (H : Heap) (locs : List Loc) (ls : Array Slot), va_P (dC, dI) vwCl (wd4 cI h ad I R) H → va_D A (wd4 cI h ad I R) → va_S A s.heap H locs → lv_has ls 6 [(0, .ref h), (1, .int p1), (2, .int p2), (4, .int x4)] → W p l e (headSpec wsX4_isAhead ({ frames := 1, cells := 0, slots := 0, locals := 23 } : Room)).room s m ([.ref h, .int p1, .int p2, .int p3] : List Value).toArray below meth c H locs 0 0 (MQ below (va_Qi (fun r (_ : Unit) => post r ) (wAt (dC, dI) vwCl [(cI, .int)] A (fun _ : Unit => wd4 cI h ad I R)) A) ([.ref h, .int p1, .int p2, .int p3] : List Value).toArray s 0 0 A) (F0 m 36 ls [.int k0])) := by
    refine ⟨?_, ?_⟩
    · intro k0 hq H locs ls hP hD hS hl
      refine lv_istore (lv' := [(4, .int k0), (0, .ref h), (1, .int p1), (2, .int p2), (3, .int p3)]) hx hb dX4_isAhead_17 hl (by decide) rfl (fun ls hl => ?_)
      refine lv_iload_n hx hb dX4_isAhead_19 rfl (lv_at hl 4 rfl) ?_
      refine lv_if_eq (tgt := 35) hx hb dX4_isAhead_20 (by decide) (fun hc => ?_) (fun hc => ?_)
      · have hq := hq.1 hc
        refine lv_iconst (v := (0 : Int32)) hx hb dX4_isAhead_35 (by decide) ?_
        exact hq _ _ ls hP hD hS (lv_sub hl [1, 2, 3, 0] rfl)
      · have hq := hq.2 hc
        refine lv_iload_n hx hb dX4_isAhead_23 rfl (lv_at hl 3 rfl) ?_
        refine lv_aload_n hx hb dX4_isAhead_24 rfl (lv_at hl 1 rfl) ?_
        refine va_get (D := (dC, dI)) (ci := 4) (v := .int (I 16)) (C := RX4) (T := TX4) (N := 27) hx hb hts nX4_isAhead_X4 hown hK hP 0 rfl rfl 16 (by decide) (hts _ mX4_isAhead_f108) (fun _ h9 => h9) rfl dX4_isAhead_25 ?_
        refine lv_ixor hx hb dX4_isAhead_28 ?_
        obtain ⟨Pc_2, hc, hq⟩ := hq
        refine vp_callSi (W.runS (As := [.int (p2 ^^^ (I 16))]) (rest := []) ⟨hx, hb, hml, hown, hts⟩ (tJ6_bitCount_0f7a4 l Pc_2 (p2 ^^^ (I 16)) hc) (va_cwS 1 hts gX4_isAhead_J6_bitCount_0f7a4 rfl rfl rfl (by decide +kernel) ⟨Nat.le_of_ble_eq_true rfl, Nat.le_of_ble_eq_true rfl⟩) preEq rfl rfl hl.1 rfl (lv_room (Nat.le_of_ble_eq_true rfl)) dX4_isAhead_29 ⟨Nat.le_of_ble_eq_true rfl, Nat.le_of_ble_eq_true rfl⟩) (fun rc_2 hp => ?_)
        have hq := hq rc_2 hp
        refine lv_goto (tgt := 36) hx hb dX4_isAhead_32 (by decide) ?_
        exact hq _ _ ls hP hD hS (lv_sub hl [1, 2, 3, 0] rfl)
    · intro x4 k0 hq H locs ls hP hD hS hl
      refine lv_istore (lv' := [(5, .int k0), (0, .ref h), (1, .int p1), (2, .int p2), (4, .int x4)]) hx hb dX4_isAhead_36 hl (by decide) rfl (fun ls hl => ?_)
      refine lv_iload hx hb dX4_isAhead_38 (lv_at hl 4 rfl) ?_
      refine lv_iload hx hb dX4_isAhead_40 (lv_at hl 0 rfl) ?_
      refine lv_icmp_eq (tgt := 58) hx hb dX4_isAhead_42 (by decide) (fun hc => ?_) (fun hc => ?_)
      · have hq := hq.1 hc
        refine lv_aload_n hx hb dX4_isAhead_58 rfl (lv_at hl 1 rfl) ?_
        refine lv_iload_n hx hb dX4_isAhead_59 rfl (lv_at hl 2 rfl) ?_
        obtain ⟨Pc_3, hc, hq⟩ := hq
        refine w_calli (wf := fun _ : Unit => wd4 cI h ad I R) (va_runV (As := [.int p1]) (rest := []) ⟨hx, hb, hml, hown, hts⟩ (tX4_sum l dC dI cI h ad _ Pc_3 p1 I R hc) (cwV 1 hts gX4_isAhead_X4_sum rfl rfl rfl (by decide +kernel) ⟨Nat.le_of_ble_eq_true rfl, Nat.le_of_ble_eq_true rfl⟩) (wPreV hK hP hD (ci := 4) (q0 := 0) rfl rfl) rfl rfl hl.1 rfl (lv_room (Nat.le_of_ble_eq_true rfl)) dX4_isAhead_60 ⟨Nat.le_of_ble_eq_true rfl, Nat.le_of_ble_eq_true rfl⟩) hD hS hA (fun rc_3 u H locs hp hP hD hS => ?_)
        have hq := hq rc_3 hp
        have hP : va_P (dC, dI) vwCl (wd4 cI h ad I R) H := hP
        have hD : va_D A (wd4 cI h ad I R) := hD
        refine lv_aload_n hx hb dX4_isAhead_63 rfl (lv_at hl 1 rfl) ?_
        refine lv_iload_n hx hb dX4_isAhead_64 rfl (lv_at hl 3 rfl) ?_
        obtain ⟨Pc_4, hc, hq⟩ := hq
        refine w_calli (wf := fun _ : Unit => wd4 cI h ad I R) (va_runV (As := [.int p2]) (rest := [.int rc_3]) ⟨hx, hb, hml, hown, hts⟩ (tX4_sum l dC dI cI h ad _ Pc_4 p2 I R hc) (cwV 1 hts gX4_isAhead_X4_sum rfl rfl rfl (by decide +kernel) ⟨Nat.le_of_ble_eq_true rfl, Nat.le_of_ble_eq_true rfl⟩) (wPreV hK hP hD (ci := 4) (q0 := 0) rfl rfl) rfl rfl hl.1 rfl (lv_room (Nat.le_of_ble_eq_true rfl)) dX4_isAhead_65 ⟨Nat.le_of_ble_eq_true rfl, Nat.le_of_ble_eq_true rfl⟩) hD hS hA (fun rc_4 u H locs hp hP hD hS => ?_)
        have hq := hq rc_4 hp
        have hP : va_P (dC, dI) vwCl (wd4 cI h ad I R) H := hP
        have hD : va_D A (wd4 cI h ad I R) := hD
        refine lv_icmp_eq (tgt := 90) hx hb dX4_isAhead_68 (by decide) (fun hc => ?_) (fun hc => ?_)
        · have hq := hq.1 hc
          refine lv_iload_n hx hb dX4_isAhead_90 rfl (lv_at hl 2 rfl) ?_
          obtain ⟨Pc_5, hc, hq⟩ := hq
          refine vp_callSi (W.runS (As := [.int p1]) (rest := []) ⟨hx, hb, hml, hown, hts⟩ (tJ6_bitCount_0f7a4 l Pc_5 p1 hc) (va_cwS 1 hts gX4_isAhead_J6_bitCount_0f7a4 rfl rfl rfl (by decide +kernel) ⟨Nat.le_of_ble_eq_true rfl, Nat.le_of_ble_eq_true rfl⟩) preEq rfl rfl hl.1 rfl (lv_room (Nat.le_of_ble_eq_true rfl)) dX4_isAhead_91 ⟨Nat.le_of_ble_eq_true rfl, Nat.le_of_ble_eq_true rfl⟩) (fun rc_5 hp => ?_)
          have hq := hq rc_5 hp
          refine lv_iload_n hx hb dX4_isAhead_94 rfl (lv_at hl 3 rfl) ?_
          obtain ⟨Pc_6, hc, hq⟩ := hq
          refine vp_callSi (W.runS (As := [.int p2]) (rest := [.int rc_5]) ⟨hx, hb, hml, hown, hts⟩ (tJ6_bitCount_0f7a4 l Pc_6 p2 hc) (va_cwS 1 hts gX4_isAhead_J6_bitCount_0f7a4 rfl rfl rfl (by decide +kernel) ⟨Nat.le_of_ble_eq_true rfl, Nat.le_of_ble_eq_true rfl⟩) preEq rfl rfl hl.1 rfl (lv_room (Nat.le_of_ble_eq_true rfl)) dX4_isAhead_95 ⟨Nat.le_of_ble_eq_true rfl, Nat.le_of_ble_eq_true rfl⟩) (fun rc_6 hp => ?_)
          have hq := hq rc_6 hp
          refine lv_icmp_ge (tgt := 105) hx hb dX4_isAhead_98 (by decide) (fun hc => ?_) (fun hc => ?_)
          · have hq := hq.1 hc
            refine lv_iconst (v := (0 : Int32)) hx hb dX4_isAhead_105 (by decide) ?_
            exact w_zret (post := fun r (_ : Unit) => post r ) (wf := fun _ : Unit => wd4 cI h ad I R) (u := ()) hx hb hr rfl hK hP hD hS hq dX4_isAhead_106 hlocks
          · have hq := hq.2 hc
            refine lv_iconst (v := (1 : Int32)) hx hb dX4_isAhead_101 (by decide) ?_
            refine lv_goto (tgt := 106) hx hb dX4_isAhead_102 (by decide) ?_
            exact w_zret (post := fun r (_ : Unit) => post r ) (wf := fun _ : Unit => wd4 cI h ad I R) (u := ()) hx hb hr rfl hK hP hD hS hq dX4_isAhead_106 hlocks
        · have hq := hq.2 hc
          refine lv_aload_n hx hb dX4_isAhead_71 rfl (lv_at hl 1 rfl) ?_
          refine lv_iload_n hx hb dX4_isAhead_72 rfl (lv_at hl 2 rfl) ?_
          obtain ⟨Pc_7, hc, hq⟩ := hq
          refine w_calli (wf := fun _ : Unit => wd4 cI h ad I R) (va_runV (As := [.int p1]) (rest := []) ⟨hx, hb, hml, hown, hts⟩ (tX4_sum l dC dI cI h ad _ Pc_7 p1 I R hc) (cwV 1 hts gX4_isAhead_X4_sum rfl rfl rfl (by decide +kernel) ⟨Nat.le_of_ble_eq_true rfl, Nat.le_of_ble_eq_true rfl⟩) (wPreV hK hP hD (ci := 4) (q0 := 0) rfl rfl) rfl rfl hl.1 rfl (lv_room (Nat.le_of_ble_eq_true rfl)) dX4_isAhead_73 ⟨Nat.le_of_ble_eq_true rfl, Nat.le_of_ble_eq_true rfl⟩) hD hS hA (fun rc_7 u H locs hp hP hD hS => ?_)
          have hq := hq rc_7 hp
          have hP : va_P (dC, dI) vwCl (wd4 cI h ad I R) H := hP
          have hD : va_D A (wd4 cI h ad I R) := hD
          refine lv_aload_n hx hb dX4_isAhead_76 rfl (lv_at hl 1 rfl) ?_
          refine lv_iload_n hx hb dX4_isAhead_77 rfl (lv_at hl 3 rfl) ?_
          obtain ⟨Pc_8, hc, hq⟩ := hq
          refine w_calli (wf := fun _ : Unit => wd4 cI h ad I R) (va_runV (As := [.int p2]) (rest := [.int rc_7]) ⟨hx, hb, hml, hown, hts⟩ (tX4_sum l dC dI cI h ad _ Pc_8 p2 I R hc) (cwV 1 hts gX4_isAhead_X4_sum rfl rfl rfl (by decide +kernel) ⟨Nat.le_of_ble_eq_true rfl, Nat.le_of_ble_eq_true rfl⟩) (wPreV hK hP hD (ci := 4) (q0 := 0) rfl rfl) rfl rfl hl.1 rfl (lv_room (Nat.le_of_ble_eq_true rfl)) dX4_isAhead_78 ⟨Nat.le_of_ble_eq_true rfl, Nat.le_of_ble_eq_true rfl⟩) hD hS hA (fun rc_8 u H locs hp hP hD hS => ?_)
          have hq := hq rc_8 hp
          have hP : va_P (dC, dI) vwCl (wd4 cI h ad I R) H := hP
          have hD : va_D A (wd4 cI h ad I R) := hD
          refine lv_icmp_le (tgt := 88) hx hb dX4_isAhead_81 (by decide) (fun hc => ?_) (fun hc => ?_)
          · have hq := hq.1 hc
            refine lv_iconst (v := (0 : Int32)) hx hb dX4_isAhead_88 (by decide) ?_
            exact w_zret (post := fun r (_ : Unit) => post r ) (wf := fun _ : Unit => wd4 cI h ad I R) (u := ()) hx hb hr rfl hK hP hD hS hq dX4_isAhead_89 hlocks
          · have hq := hq.2 hc
            refine lv_iconst (v := (1 : Int32)) hx hb dX4_isAhead_84 (by decide) ?_
            refine lv_goto (tgt := 89) hx hb dX4_isAhead_85 (by decide) ?_
            exact w_zret (post := fun r (_ : Unit) => post r ) (wf := fun _ : Unit => wd4 cI h ad I R) (u := ()) hx hb hr rfl hK hP hD hS hq dX4_isAhead_89 hlocks
      · have hq := hq.2 hc
        refine lv_iload hx hb dX4_isAhead_45 (lv_at hl 4 rfl) ?_
        refine lv_iload hx hb dX4_isAhead_47 (lv_at hl 0 rfl) ?_
        refine lv_icmp_ge (tgt := 56) hx hb dX4_isAhead_49 (by decide) (fun hc => ?_) (fun hc => ?_)
        · have hq := hq.1 hc
          refine lv_iconst (v := (0 : Int32)) hx hb dX4_isAhead_56 (by decide) ?_
          exact w_zret (post := fun r (_ : Unit) => post r ) (wf := fun _ : Unit => wd4 cI h ad I R) (u := ()) hx hb hr rfl hK hP hD hS hq dX4_isAhead_57 hlocks
        · have hq := hq.2 hc
          refine lv_iconst (v := (1 : Int32)) hx hb dX4_isAhead_52 (by decide) ?_
          refine lv_goto (tgt := 57) hx hb dX4_isAhead_53 (by decide) ?_
          exact w_zret (post := fun r (_ : Unit) => post r ) (wf := fun _ : Unit => wd4 cI h ad I R) (u := ()) hx hb hr rfl hK hP hD hS hq dX4_isAhead_57 hlocks
  have hl := lv_entry ([.ref h, .int p1, .int p2, .int p3]) (n := 6) (Nat.le_of_ble_eq_true rfl)
  rw [lg_entry_eq]
  generalize (lg_sl ([.ref h, .int p1, .int p2, .int p3]) ++ List.replicate (6 - (lg_sl ([.ref h, .int p1, .int p2, .int p3])).length) Slot.unset).toArray = ls at hl ⊢
  have hl : lv_has ls 6 [(0, .ref h), (1, .int p1), (2, .int p2), (3, .int p3)] := hl
  refine lv_iload_n hx hb dX4_isAhead_0 rfl (lv_at hl 3 rfl) ?_
  refine lv_if_eq (tgt := 16) hx hb dX4_isAhead_1 (by decide) (fun hc => ?_) (fun hc => ?_)
  · have hq := hq.1 hc
    refine lv_iconst (v := (0 : Int32)) hx hb dX4_isAhead_16 (by decide) ?_
    exact hq _ _ hZ _ _ ls hP hD hS (lv_sub hl [0, 1, 2, 3] rfl)
  · have hq := hq.2 hc
    refine lv_iload_n hx hb dX4_isAhead_4 rfl (lv_at hl 1 rfl) ?_
    refine lv_aload_n hx hb dX4_isAhead_5 rfl (lv_at hl 0 rfl) ?_
    refine va_get (D := (dC, dI)) (ci := 4) (v := .int (I 16)) (C := RX4) (T := TX4) (N := 27) hx hb hts nX4_isAhead_X4 hown hK hP 0 rfl rfl 16 (by decide) (hts _ mX4_isAhead_f108) (fun _ h9 => h9) rfl dX4_isAhead_6 ?_
    refine lv_ixor hx hb dX4_isAhead_9 ?_
    obtain ⟨Pc_1, hc, hq⟩ := hq
    refine vp_callSi (W.runS (As := [.int (p1 ^^^ (I 16))]) (rest := []) ⟨hx, hb, hml, hown, hts⟩ (tJ6_bitCount_0f7a4 l Pc_1 (p1 ^^^ (I 16)) hc) (va_cwS 1 hts gX4_isAhead_J6_bitCount_0f7a4 rfl rfl rfl (by decide +kernel) ⟨Nat.le_of_ble_eq_true rfl, Nat.le_of_ble_eq_true rfl⟩) preEq rfl rfl hl.1 rfl (lv_room (Nat.le_of_ble_eq_true rfl)) dX4_isAhead_10 ⟨Nat.le_of_ble_eq_true rfl, Nat.le_of_ble_eq_true rfl⟩) (fun rc_1 hp => ?_)
    have hq := hq rc_1 hp
    refine lv_goto (tgt := 17) hx hb dX4_isAhead_13 (by decide) ?_
    exact hq _ _ hZ _ _ ls hP hD hS (lv_sub hl [0, 1, 2, 3] rfl)
def zX4_search (post : Int32 → (Nat → Int32) → (Nat → Nat → Int32) → Prop) (p1 : Int32) (X14 : Int32 → Int32 → Int32 → (Nat → Int32) → (Nat → Nat → Int32) → Prop) : Prop :=
  (∀ (x2 : Int32) (x3 : Int32) (x4 : Int32) (I : Nat → Int32) (R : Nat → Nat → Int32), (((((1 : Int32) <<< ((I 11) &&& 31)) ≤ x4) → (post x3 I R)) ∧ ((¬ ((1 : Int32) <<< ((I 11) &&& 31)) ≤ x4) → (((¬ (x4 &&& (x2 ^^^ (-1 : Int32))) = 0) → (X14 x2 x3 (x4 + (1 : Int32)) I R)) ∧ (((x4 &&& (x2 ^^^ (-1 : Int32))) = 0) → (∃ Pc_3 : Int32 → Prop, qX4_why Pc_3 x4 I R ∧ (∀ (rc_3 : Int32), Pc_3 rc_3 → (((rc_3 ≤ 0) → (((x3 = (-1 : Int32)) → (X14 x2 x4 (x4 + (1 : Int32)) I R)) ∧ ((¬ x3 = (-1 : Int32)) → (∃ Pc_4 : Int32 → Prop, qX4_isAhead Pc_4 x4 x3 p1 I R ∧ (∀ (rc_4 : Int32), Pc_4 rc_4 → (((rc_4 = 0) → (X14 x2 x3 (x4 + (1 : Int32)) I R)) ∧ ((¬ rc_4 = 0) → (X14 x2 x4 (x4 + (1 : Int32)) I R)))))))) ∧ ((¬ rc_3 ≤ 0) → (X14 x2 x3 (x4 + (1 : Int32)) I R))))))))) → X14 x2 x3 x4 I R)
def qX4_search_14 (post : Int32 → (Nat → Int32) → (Nat → Nat → Int32) → Prop) (p1 : Int32) (x2 : Int32) (x3 : Int32) (x4 : Int32) (I : Nat → Int32) (R : Nat → Nat → Int32) : Prop := ∀ (X14 : Int32 → Int32 → Int32 → (Nat → Int32) → (Nat → Nat → Int32) → Prop), zX4_search post p1 X14 → X14 x2 x3 x4 I R
theorem kX4_search_14 {post : Int32 → (Nat → Int32) → (Nat → Nat → Int32) → Prop} {p1 : Int32} {x2 : Int32} {x3 : Int32} {x4 : Int32} {I : Nat → Int32} {R : Nat → Nat → Int32} (h : ((((1 : Int32) <<< ((I 11) &&& 31)) ≤ x4) → (post x3 I R)) ∧ ((¬ ((1 : Int32) <<< ((I 11) &&& 31)) ≤ x4) → (((¬ (x4 &&& (x2 ^^^ (-1 : Int32))) = 0) → (qX4_search_14 post p1 x2 x3 (x4 + (1 : Int32)) I R)) ∧ (((x4 &&& (x2 ^^^ (-1 : Int32))) = 0) → (∃ Pc_3 : Int32 → Prop, qX4_why Pc_3 x4 I R ∧ (∀ (rc_3 : Int32), Pc_3 rc_3 → (((rc_3 ≤ 0) → (((x3 = (-1 : Int32)) → (qX4_search_14 post p1 x2 x4 (x4 + (1 : Int32)) I R)) ∧ ((¬ x3 = (-1 : Int32)) → (∃ Pc_4 : Int32 → Prop, qX4_isAhead Pc_4 x4 x3 p1 I R ∧ (∀ (rc_4 : Int32), Pc_4 rc_4 → (((rc_4 = 0) → (qX4_search_14 post p1 x2 x3 (x4 + (1 : Int32)) I R)) ∧ ((¬ rc_4 = 0) → (qX4_search_14 post p1 x2 x4 (x4 + (1 : Int32)) I R)))))))) ∧ ((¬ rc_3 ≤ 0) → (qX4_search_14 post p1 x2 x3 (x4 + (1 : Int32)) I R))))))))) : qX4_search_14 post p1 x2 x3 x4 I R := by
  intro Z14 hcl
  refine hcl x2 x3 x4 I R ?_
  refine ⟨fun c => ?_, fun c => ?_⟩
  · have h := h.1 c
    exact h
  · have h := h.2 c
    refine ⟨fun c => ?_, fun c => ?_⟩
    · have h := h.1 c
      exact h _ hcl
    · have h := h.2 c
      obtain ⟨P, h1, h2⟩ := h
      refine ⟨P, h1, fun b0 hp => ?_⟩
      have h := h2 b0 hp
      refine ⟨fun c => ?_, fun c => ?_⟩
      · have h := h.1 c
        refine ⟨fun c => ?_, fun c => ?_⟩
        · have h := h.1 c
          exact h _ hcl
        · have h := h.2 c
          obtain ⟨P, h1, h2⟩ := h
          refine ⟨P, h1, fun b0 hp => ?_⟩
          have h := h2 b0 hp
          refine ⟨fun c => ?_, fun c => ?_⟩
          · have h := h.1 c
            exact h _ hcl
          · have h := h.2 c
            exact h _ hcl
      · have h := h.2 c
        exact h _ hcl
def qX4_search (post : Int32 → (Nat → Int32) → (Nat → Nat → Int32) → Prop) (p1 : Int32) (I : Nat → Int32) (R : Nat → Nat → Int32) : Prop := ∃ Pc_1 : Int32 → (Nat → Int32) → (Nat → Nat → Int32) → Prop, qX4_good Pc_1  I R ∧ (∀ (rc_1 : Int32) (Ic_1 : Nat → Int32) (Rc_1 : Nat → Nat → Int32), Pc_1 rc_1 Ic_1 Rc_1 → (∃ Pc_2 : (Nat → Int32) → (Nat → Nat → Int32) → Prop, qX4_takeSeen Pc_2  Ic_1 Rc_1 ∧ (∀ (Ic_2 : Nat → Int32) (Rc_2 : Nat → Nat → Int32), Pc_2 Ic_2 Rc_2 → (qX4_search_14 post p1 rc_1 (-1 : Int32) (0 : Int32) Ic_2 Rc_2))))
theorem mX4_search_f74 : Cond.fieldLink RX4 74 "YearBookModel" "pictures" "I" ∈ wsX4_search := by decide +kernel
theorem nX4_search_X4 : ∀ w ∈ u_ws RX4 TX4 27, w ∈ wsX4_search := by decide +kernel
set_option maxHeartbeats 4000000 in
set_option maxRecDepth 100000 in
theorem tX4_search (l : Launch) (dC : Nat → ClassId) (dI : Nat → Nat → Nat) (cI : ClassId) (h : Nat) (ad : Nat → Nat)  (sz : Nat) (post : Int32 → (Nat → Int32) → (Nat → Nat → Int32) → Prop) (p1 : Int32) (I : Nat → Int32) (R : Nat → Nat → Int32) (hq : qX4_search post p1 I R) : Met l yX4_search wsX4_search ({ frames := 5, cells := 0, slots := 0, locals := 118 } : Room) (va_Pc [.ref h, .int p1] (wPre (dC, dI) vwCl [(cI, .int)] (wd4 cI h ad I R) sz)) (va_Qi (fun r (u : (Nat → Int32) × (Nat → Nat → Int32)) => post r u.1 u.2) (wAt (dC, dI) vwCl [(cI, .int)] (va_A (wd4 cI h ad I R) sz) (fun u : (Nat → Int32) × (Nat → Nat → Int32) => wd4 cI h ad u.1 u.2)) (va_A (wd4 cI h ad I R) sz)) 0 0 (va_A (wd4 cI h ad I R) sz) := by
  unfold qX4_search at hq
  refine Met.ofW (cc := cX4_search) (maxL := 5) (ret := (some .int)) (by decide) rfl ?_
  intro p e s m args below meth c s₁ B hml hv
  obtain ⟨rfl, hsz, hP, hK, hD0⟩ := hv
  have hx := B.exec
  have hb := B.bytes
  have hr := B.returns
  have hts := atoms_spec (ws := wsX4_search) B.pre
  have hown : s.vm.findClass RX4 = some m.cls := findClass_of_methodNamed B.named
  have hlocks := B.notSynchronized
  subst hsz
  have hD := hD0.self (sz := s.heap.size)
  generalize hAe : va_A (wd4 cI h ad I R) s.heap.size = A at hD ⊢
  have hA : ∀ q : Nat, s.heap.size ≤ q → A q := fun q h => by rw [← hAe]; exact Or.inr h
  have hS : va_S A s.heap s.heap [] := va_S.rf
  have hZ : zX4_search post p1
      (fun (x2 : Int32) (x3 : Int32) (x4 : Int32) (I : Nat → Int32) (R : Nat → Nat → Int32) => ∀ (H : Heap) (locs : List Loc) (ls : Array Slot), va_P (dC, dI) vwCl (wd4 cI h ad I R) H → va_D A (wd4 cI h ad I R) → va_S A s.heap H locs → lv_has ls 5 [(0, .ref h), (1, .int p1), (2, .int x2), (3, .int x3), (4, .int x4)] → W p l e (headSpec wsX4_search ({ frames := 5, cells := 0, slots := 0, locals := 118 } : Room)).room s m ([.ref h, .int p1] : List Value).toArray below meth c H locs 0 0 (MQ below (va_Qi (fun r (u : (Nat → Int32) × (Nat → Nat → Int32)) => post r u.1 u.2) (wAt (dC, dI) vwCl [(cI, .int)] A (fun u : (Nat → Int32) × (Nat → Nat → Int32) => wd4 cI h ad u.1 u.2)) A) ([.ref h, .int p1] : List Value).toArray s 0 0 A) (F0 m 14 ls [])) := by
    unfold zX4_search
    intro x2 x3 x4 I R hq H locs ls hP hD hS hl
    refine lv_iload hx hb dX4_search_14 (lv_at hl 4 rfl) ?_
    refine lv_iconst (v := (1 : Int32)) hx hb dX4_search_16 (by decide) ?_
    refine lv_aload_n hx hb dX4_search_17 rfl (lv_at hl 0 rfl) ?_
    refine va_get (D := (dC, dI)) (ci := 4) (v := .int (I 11)) (C := RX4) (T := TX4) (N := 27) hx hb hts nX4_search_X4 hown hK hP 0 rfl rfl 11 (by decide) (hts _ mX4_search_f74) (fun _ h9 => h9) rfl dX4_search_18 ?_
    refine lv_ishl hx hb dX4_search_21 ?_
    refine lv_icmp_ge (tgt := 71) hx hb dX4_search_22 (by decide) (fun hc => ?_) (fun hc => ?_)
    · have hq := hq.1 hc
      refine lv_iload_n hx hb dX4_search_71 rfl (lv_at hl 3 rfl) ?_
      exact w_iret (post := fun r (u : (Nat → Int32) × (Nat → Nat → Int32)) => post r u.1 u.2) (wf := fun u : (Nat → Int32) × (Nat → Nat → Int32) => wd4 cI h ad u.1 u.2) (u := (I, R)) hx hb hr hK hP hD hS hq dX4_search_72 hlocks
    · have hq := hq.2 hc
      refine lv_iload hx hb dX4_search_25 (lv_at hl 4 rfl) ?_
      refine lv_iload_n hx hb dX4_search_27 rfl (lv_at hl 2 rfl) ?_
      refine lv_iconst (v := (-1 : Int32)) hx hb dX4_search_28 (by decide) ?_
      refine lv_ixor hx hb dX4_search_29 ?_
      refine lv_iand hx hb dX4_search_30 ?_
      refine lv_if_ne (tgt := 65) hx hb dX4_search_31 (by decide) (fun hc => ?_) (fun hc => ?_)
      · have hq := hq.1 hc
        refine lv_iinc (v := x4 + (1 : Int32)) (lv' := [(4, .int (x4 + (1 : Int32))), (0, .ref h), (1, .int p1), (2, .int x2), (3, .int x3)]) hx hb dX4_search_65 hl (k := 4) rfl rfl (by decide) rfl (fun ls hl => ?_)
        refine lv_goto (tgt := 14) hx hb dX4_search_68 (by decide) ?_
        exact hq _ _ ls hP hD hS (lv_sub hl [1, 2, 3, 4, 0] rfl)
      · have hq := hq.2 hc
        refine lv_aload_n hx hb dX4_search_34 rfl (lv_at hl 0 rfl) ?_
        refine lv_iload hx hb dX4_search_35 (lv_at hl 4 rfl) ?_
        obtain ⟨Pc_3, hc, hq⟩ := hq
        refine w_calli (wf := fun _ : Unit => wd4 cI h ad I R) (va_runV (As := [.int x4]) (rest := []) ⟨hx, hb, hml, hown, hts⟩ (tX4_why l dC dI cI h ad _ Pc_3 x4 I R hc) (cwV 1 hts gX4_search_X4_why rfl rfl rfl (by decide +kernel) ⟨Nat.le_of_ble_eq_true rfl, Nat.le_of_ble_eq_true rfl⟩) (wPreV hK hP hD (ci := 4) (q0 := 0) rfl rfl) rfl rfl hl.1 rfl (lv_room (Nat.le_of_ble_eq_true rfl)) dX4_search_37 ⟨Nat.le_of_ble_eq_true rfl, Nat.le_of_ble_eq_true rfl⟩) hD hS hA (fun rc_3 u H locs hp hP hD hS => ?_)
        have hq := hq rc_3 hp
        have hP : va_P (dC, dI) vwCl (wd4 cI h ad I R) H := hP
        have hD : va_D A (wd4 cI h ad I R) := hD
        refine lv_if_le (tgt := 46) hx hb dX4_search_40 (by decide) (fun hc => ?_) (fun hc => ?_)
        · have hq := hq.1 hc
          refine lv_iload_n hx hb dX4_search_46 rfl (lv_at hl 3 rfl) ?_
          refine lv_iconst (v := (-1 : Int32)) hx hb dX4_search_47 (by decide) ?_
          refine lv_icmp_eq (tgt := 62) hx hb dX4_search_48 (by decide) (fun hc => ?_) (fun hc => ?_)
          · have hq := hq.1 hc
            refine lv_iload hx hb dX4_search_62 (lv_at hl 4 rfl) ?_
            refine lv_istore_n (lv' := [(3, .int x4), (0, .ref h), (1, .int p1), (2, .int x2), (4, .int x4)]) hx hb dX4_search_64 rfl hl (by decide) rfl (fun ls hl => ?_)
            refine lv_iinc (v := x4 + (1 : Int32)) (lv' := [(4, .int (x4 + (1 : Int32))), (3, .int x4), (0, .ref h), (1, .int p1), (2, .int x2)]) hx hb dX4_search_65 hl (k := 4) rfl rfl (by decide) rfl (fun ls hl => ?_)
            refine lv_goto (tgt := 14) hx hb dX4_search_68 (by decide) ?_
            exact hq _ _ ls hP hD hS (lv_sub hl [2, 3, 4, 1, 0] rfl)
          · have hq := hq.2 hc
            refine lv_aload_n hx hb dX4_search_51 rfl (lv_at hl 0 rfl) ?_
            refine lv_iload hx hb dX4_search_52 (lv_at hl 4 rfl) ?_
            refine lv_iload_n hx hb dX4_search_54 rfl (lv_at hl 3 rfl) ?_
            refine lv_iload_n hx hb dX4_search_55 rfl (lv_at hl 1 rfl) ?_
            obtain ⟨Pc_4, hc, hq⟩ := hq
            refine w_calli (wf := fun _ : Unit => wd4 cI h ad I R) (va_runV (As := [.int x4, .int x3, .int p1]) (rest := []) ⟨hx, hb, hml, hown, hts⟩ (tX4_isAhead l dC dI cI h ad _ Pc_4 x4 x3 p1 I R hc) (cwV 3 hts gX4_search_X4_isAhead rfl rfl rfl (by decide +kernel) ⟨Nat.le_of_ble_eq_true rfl, Nat.le_of_ble_eq_true rfl⟩) (wPreV hK hP hD (ci := 4) (q0 := 0) rfl rfl) rfl rfl hl.1 rfl (lv_room (Nat.le_of_ble_eq_true rfl)) dX4_search_56 ⟨Nat.le_of_ble_eq_true rfl, Nat.le_of_ble_eq_true rfl⟩) hD hS hA (fun rc_4 u H locs hp hP hD hS => ?_)
            have hq := hq rc_4 hp
            have hP : va_P (dC, dI) vwCl (wd4 cI h ad I R) H := hP
            have hD : va_D A (wd4 cI h ad I R) := hD
            refine lv_if_eq (tgt := 65) hx hb dX4_search_59 (by decide) (fun hc => ?_) (fun hc => ?_)
            · have hq := hq.1 hc
              refine lv_iinc (v := x4 + (1 : Int32)) (lv' := [(4, .int (x4 + (1 : Int32))), (0, .ref h), (1, .int p1), (2, .int x2), (3, .int x3)]) hx hb dX4_search_65 hl (k := 4) rfl rfl (by decide) rfl (fun ls hl => ?_)
              refine lv_goto (tgt := 14) hx hb dX4_search_68 (by decide) ?_
              exact hq _ _ ls hP hD hS (lv_sub hl [1, 2, 3, 4, 0] rfl)
            · have hq := hq.2 hc
              refine lv_iload hx hb dX4_search_62 (lv_at hl 4 rfl) ?_
              refine lv_istore_n (lv' := [(3, .int x4), (0, .ref h), (1, .int p1), (2, .int x2), (4, .int x4)]) hx hb dX4_search_64 rfl hl (by decide) rfl (fun ls hl => ?_)
              refine lv_iinc (v := x4 + (1 : Int32)) (lv' := [(4, .int (x4 + (1 : Int32))), (3, .int x4), (0, .ref h), (1, .int p1), (2, .int x2)]) hx hb dX4_search_65 hl (k := 4) rfl rfl (by decide) rfl (fun ls hl => ?_)
              refine lv_goto (tgt := 14) hx hb dX4_search_68 (by decide) ?_
              exact hq _ _ ls hP hD hS (lv_sub hl [2, 3, 4, 1, 0] rfl)
        · have hq := hq.2 hc
          refine lv_goto (tgt := 65) hx hb dX4_search_43 (by decide) ?_
          refine lv_iinc (v := x4 + (1 : Int32)) (lv' := [(4, .int (x4 + (1 : Int32))), (0, .ref h), (1, .int p1), (2, .int x2), (3, .int x3)]) hx hb dX4_search_65 hl (k := 4) rfl rfl (by decide) rfl (fun ls hl => ?_)
          refine lv_goto (tgt := 14) hx hb dX4_search_68 (by decide) ?_
          exact hq _ _ ls hP hD hS (lv_sub hl [1, 2, 3, 4, 0] rfl)
  have hl := lv_entry ([.ref h, .int p1]) (n := 5) (Nat.le_of_ble_eq_true rfl)
  rw [lg_entry_eq]
  generalize (lg_sl ([.ref h, .int p1]) ++ List.replicate (5 - (lg_sl ([.ref h, .int p1])).length) Slot.unset).toArray = ls at hl ⊢
  have hl : lv_has ls 5 [(0, .ref h), (1, .int p1)] := hl
  refine lv_aload_n hx hb dX4_search_0 rfl (lv_at hl 0 rfl) ?_
  obtain ⟨Pc_1, hc, hq⟩ := hq
  refine w_calli (wf := fun u : (Nat → Int32) × (Nat → Nat → Int32) => wd4 cI h ad u.1 u.2) (va_runV (As := []) (rest := []) ⟨hx, hb, hml, hown, hts⟩ (tX4_good l dC dI cI h ad _ Pc_1  I R hc) (cwV 0 hts gX4_search_X4_good rfl rfl rfl (by decide +kernel) ⟨Nat.le_of_ble_eq_true rfl, Nat.le_of_ble_eq_true rfl⟩) (wPreV hK hP hD (ci := 4) (q0 := 0) rfl rfl) rfl rfl hl.1 rfl (lv_room (Nat.le_of_ble_eq_true rfl)) dX4_search_1 ⟨Nat.le_of_ble_eq_true rfl, Nat.le_of_ble_eq_true rfl⟩) hD hS hA (fun rc_1 u H locs hp hP hD hS => ?_)
  obtain ⟨Ic_1, Rc_1⟩ := u
  have hq := hq rc_1 Ic_1 Rc_1 hp
  have hP : va_P (dC, dI) vwCl (wd4 cI h ad Ic_1 Rc_1) H := hP
  have hD : va_D A (wd4 cI h ad Ic_1 Rc_1) := hD
  refine lv_istore_n (lv' := [(2, .int rc_1), (0, .ref h), (1, .int p1)]) hx hb dX4_search_4 rfl hl (by decide) rfl (fun ls hl => ?_)
  refine lv_aload_n hx hb dX4_search_5 rfl (lv_at hl 1 rfl) ?_
  obtain ⟨Pc_2, hc, hq⟩ := hq
  refine w_callv (wf := fun u : (Nat → Int32) × (Nat → Nat → Int32) => wd4 cI h ad u.1 u.2) (va_runV (As := []) (rest := []) ⟨hx, hb, hml, hown, hts⟩ (tX4_takeSeen l dC dI cI h ad _ Pc_2  Ic_1 Rc_1 hc) (cwV 0 hts gX4_search_X4_takeSeen rfl rfl rfl (by decide +kernel) ⟨Nat.le_of_ble_eq_true rfl, Nat.le_of_ble_eq_true rfl⟩) (wPreV hK hP hD (ci := 4) (q0 := 0) rfl rfl) rfl rfl hl.1 rfl (lv_room (Nat.le_of_ble_eq_true rfl)) dX4_search_6 ⟨Nat.le_of_ble_eq_true rfl, Nat.le_of_ble_eq_true rfl⟩) hD hS hA (fun u H locs hp hP hD hS => ?_)
  obtain ⟨Ic_2, Rc_2⟩ := u
  have hq := hq Ic_2 Rc_2 hp
  have hP : va_P (dC, dI) vwCl (wd4 cI h ad Ic_2 Rc_2) H := hP
  have hD : va_D A (wd4 cI h ad Ic_2 Rc_2) := hD
  refine lv_iconst (v := (-1 : Int32)) hx hb dX4_search_9 (by decide) ?_
  refine lv_istore_n (lv' := [(3, .int (-1 : Int32)), (2, .int rc_1), (0, .ref h), (1, .int p1)]) hx hb dX4_search_10 rfl hl (by decide) rfl (fun ls hl => ?_)
  refine lv_iconst (v := (0 : Int32)) hx hb dX4_search_11 (by decide) ?_
  refine lv_istore (lv' := [(4, .int (0 : Int32)), (3, .int (-1 : Int32)), (2, .int rc_1), (0, .ref h), (1, .int p1)]) hx hb dX4_search_12 hl (by decide) rfl (fun ls hl => ?_)
  exact hq _ hZ _ _ ls hP hD hS (lv_sub hl [3, 4, 2, 1, 0] rfl)
def qX4_best (post : Int32 → (Nat → Int32) → (Nat → Nat → Int32) → Prop) (I : Nat → Int32) (R : Nat → Nat → Int32) : Prop := ∃ Pc_1 : Int32 → (Nat → Int32) → (Nat → Nat → Int32) → Prop, qX4_search Pc_1 (0 : Int32) (va_up I 19 (0 : Int32)) R ∧ (∀ (rc_1 : Int32) (Ic_1 : Nat → Int32) (Rc_1 : Nat → Nat → Int32), Pc_1 rc_1 Ic_1 Rc_1 → (((¬ rc_1 = (-1 : Int32)) → (∃ Pc_2 : Int32 → Prop, qX4_sum Pc_2 rc_1 (va_up (va_up Ic_1 16 rc_1) 18 (0 : Int32)) Rc_1 ∧ (∀ (rc_2 : Int32), Pc_2 rc_2 → (post rc_2 (va_up (va_up Ic_1 16 rc_1) 18 (0 : Int32)) Rc_1)))) ∧ ((rc_1 = (-1 : Int32)) → (post (-1 : Int32) Ic_1 Rc_1))))
theorem mX4_best_f71 : Cond.fieldLink RX4 71 "YearBookModel" "thrown" "I" ∈ wsX4_best := by decide +kernel
theorem nX4_best_X4 : ∀ w ∈ u_ws RX4 TX4 27, w ∈ wsX4_best := by decide +kernel
theorem mX4_best_f108 : Cond.fieldLink RX4 108 "YearBookModel" "choice" "I" ∈ wsX4_best := by decide +kernel
theorem mX4_best_f114 : Cond.fieldLink RX4 114 "YearBookModel" "pageMany" "I" ∈ wsX4_best := by decide +kernel
set_option maxHeartbeats 4000000 in
set_option maxRecDepth 100000 in
theorem tX4_best (l : Launch) (dC : Nat → ClassId) (dI : Nat → Nat → Nat) (cI : ClassId) (h : Nat) (ad : Nat → Nat)  (sz : Nat) (post : Int32 → (Nat → Int32) → (Nat → Nat → Int32) → Prop) (I : Nat → Int32) (R : Nat → Nat → Int32) (hq : qX4_best post I R) : Met l yX4_best wsX4_best ({ frames := 6, cells := 0, slots := 0, locals := 142 } : Room) (va_Pc [.ref h] (wPre (dC, dI) vwCl [(cI, .int)] (wd4 cI h ad I R) sz)) (va_Qi (fun r (u : (Nat → Int32) × (Nat → Nat → Int32)) => post r u.1 u.2) (wAt (dC, dI) vwCl [(cI, .int)] (va_A (wd4 cI h ad I R) sz) (fun u : (Nat → Int32) × (Nat → Nat → Int32) => wd4 cI h ad u.1 u.2)) (va_A (wd4 cI h ad I R) sz)) 0 0 (va_A (wd4 cI h ad I R) sz) := by
  unfold qX4_best at hq
  refine Met.ofW (cc := cX4_best) (maxL := 2) (ret := (some .int)) (by decide) rfl ?_
  intro p e s m args below meth c s₁ B hml hv
  obtain ⟨rfl, hsz, hP, hK, hD0⟩ := hv
  have hx := B.exec
  have hb := B.bytes
  have hr := B.returns
  have hts := atoms_spec (ws := wsX4_best) B.pre
  have hown : s.vm.findClass RX4 = some m.cls := findClass_of_methodNamed B.named
  have hlocks := B.notSynchronized
  subst hsz
  have hD := hD0.self (sz := s.heap.size)
  generalize hAe : va_A (wd4 cI h ad I R) s.heap.size = A at hD ⊢
  have hA : ∀ q : Nat, s.heap.size ≤ q → A q := fun q h => by rw [← hAe]; exact Or.inr h
  have hS : va_S A s.heap s.heap [] := va_S.rf
  have hl := lv_entry ([.ref h]) (n := 2) (Nat.le_of_ble_eq_true rfl)
  rw [lg_entry_eq]
  generalize (lg_sl ([.ref h]) ++ List.replicate (2 - (lg_sl ([.ref h])).length) Slot.unset).toArray = ls at hl ⊢
  have hl : lv_has ls 2 [(0, .ref h)] := hl
  refine lv_aload_n hx hb dX4_best_0 rfl (lv_at hl 0 rfl) ?_
  refine lv_iconst (v := (0 : Int32)) hx hb dX4_best_1 (by decide) ?_
  refine va_put (D := (dC, dI)) (ci := 4) (v := .int (0 : Int32)) (ty := .int) (C := RX4) (T := TX4) (N := 27) hx hb hts nX4_best_X4 tyX4 tyX4_ok nmX4 hown hK hP hD hS 0 rfl rfl 19 (by decide) (hts _ mX4_best_f71) (fun _ h9 => h9) rfl (by decide +kernel) rfl rfl (Nat.le_of_ble_eq_true rfl) dX4_best_2 (fun H locs hP hD hS => ?_)
  rw [wd4_I19] at hP hD
  refine lv_aload_n hx hb dX4_best_5 rfl (lv_at hl 0 rfl) ?_
  refine lv_iconst (v := (0 : Int32)) hx hb dX4_best_6 (by decide) ?_
  obtain ⟨Pc_1, hc, hq⟩ := hq
  refine w_calli (wf := fun u : (Nat → Int32) × (Nat → Nat → Int32) => wd4 cI h ad u.1 u.2) (va_runV (As := [.int (0 : Int32)]) (rest := []) ⟨hx, hb, hml, hown, hts⟩ (tX4_search l dC dI cI h ad _ Pc_1 (0 : Int32) (va_up I 19 (0 : Int32)) R hc) (cwV 1 hts gX4_best_X4_search rfl rfl rfl (by decide +kernel) ⟨Nat.le_of_ble_eq_true rfl, Nat.le_of_ble_eq_true rfl⟩) (wPreV hK hP hD (ci := 4) (q0 := 0) rfl rfl) rfl rfl hl.1 rfl (lv_room (Nat.le_of_ble_eq_true rfl)) dX4_best_7 ⟨Nat.le_of_ble_eq_true rfl, Nat.le_of_ble_eq_true rfl⟩) hD hS hA (fun rc_1 u H locs hp hP hD hS => ?_)
  obtain ⟨Ic_1, Rc_1⟩ := u
  have hq := hq rc_1 Ic_1 Rc_1 hp
  have hP : va_P (dC, dI) vwCl (wd4 cI h ad Ic_1 Rc_1) H := hP
  have hD : va_D A (wd4 cI h ad Ic_1 Rc_1) := hD
  refine lv_istore_n (lv' := [(1, .int rc_1), (0, .ref h)]) hx hb dX4_best_10 rfl hl (by decide) rfl (fun ls hl => ?_)
  refine lv_iload_n hx hb dX4_best_11 rfl (lv_at hl 0 rfl) ?_
  refine lv_iconst (v := (-1 : Int32)) hx hb dX4_best_12 (by decide) ?_
  refine lv_icmp_ne (tgt := 18) hx hb dX4_best_13 (by decide) (fun hc => ?_) (fun hc => ?_)
  · have hq := hq.1 hc
    refine lv_aload_n hx hb dX4_best_18 rfl (lv_at hl 1 rfl) ?_
    refine lv_iload_n hx hb dX4_best_19 rfl (lv_at hl 0 rfl) ?_
    refine va_put (D := (dC, dI)) (ci := 4) (v := .int rc_1) (ty := .int) (C := RX4) (T := TX4) (N := 27) hx hb hts nX4_best_X4 tyX4 tyX4_ok nmX4 hown hK hP hD hS 0 rfl rfl 16 (by decide) (hts _ mX4_best_f108) (fun _ h9 => h9) rfl (by decide +kernel) rfl rfl (Nat.le_of_ble_eq_true rfl) dX4_best_20 (fun H locs hP hD hS => ?_)
    rw [wd4_I16] at hP hD
    refine lv_aload_n hx hb dX4_best_23 rfl (lv_at hl 1 rfl) ?_
    refine lv_iconst (v := (0 : Int32)) hx hb dX4_best_24 (by decide) ?_
    refine va_put (D := (dC, dI)) (ci := 4) (v := .int (0 : Int32)) (ty := .int) (C := RX4) (T := TX4) (N := 27) hx hb hts nX4_best_X4 tyX4 tyX4_ok nmX4 hown hK hP hD hS 0 rfl rfl 18 (by decide) (hts _ mX4_best_f114) (fun _ h9 => h9) rfl (by decide +kernel) rfl rfl (Nat.le_of_ble_eq_true rfl) dX4_best_25 (fun H locs hP hD hS => ?_)
    rw [wd4_I18] at hP hD
    refine lv_aload_n hx hb dX4_best_28 rfl (lv_at hl 1 rfl) ?_
    refine lv_aload_n hx hb dX4_best_29 rfl (lv_at hl 1 rfl) ?_
    refine va_get (D := (dC, dI)) (ci := 4) (v := .int rc_1) (C := RX4) (T := TX4) (N := 27) hx hb hts nX4_best_X4 hown hK hP 0 rfl rfl 16 (by decide) (hts _ mX4_best_f108) (fun _ h9 => h9) rfl dX4_best_30 ?_
    obtain ⟨Pc_2, hc, hq⟩ := hq
    refine w_calli (wf := fun _ : Unit => wd4 cI h ad (va_up (va_up Ic_1 16 rc_1) 18 (0 : Int32)) Rc_1) (va_runV (As := [.int rc_1]) (rest := []) ⟨hx, hb, hml, hown, hts⟩ (tX4_sum l dC dI cI h ad _ Pc_2 rc_1 (va_up (va_up Ic_1 16 rc_1) 18 (0 : Int32)) Rc_1 hc) (cwV 1 hts gX4_best_X4_sum rfl rfl rfl (by decide +kernel) ⟨Nat.le_of_ble_eq_true rfl, Nat.le_of_ble_eq_true rfl⟩) (wPreV hK hP hD (ci := 4) (q0 := 0) rfl rfl) rfl rfl hl.1 rfl (lv_room (Nat.le_of_ble_eq_true rfl)) dX4_best_33 ⟨Nat.le_of_ble_eq_true rfl, Nat.le_of_ble_eq_true rfl⟩) hD hS hA (fun rc_2 u H locs hp hP hD hS => ?_)
    have hq := hq rc_2 hp
    have hP : va_P (dC, dI) vwCl (wd4 cI h ad (va_up (va_up Ic_1 16 rc_1) 18 (0 : Int32)) Rc_1) H := hP
    have hD : va_D A (wd4 cI h ad (va_up (va_up Ic_1 16 rc_1) 18 (0 : Int32)) Rc_1) := hD
    exact w_iret (post := fun r (u : (Nat → Int32) × (Nat → Nat → Int32)) => post r u.1 u.2) (wf := fun u : (Nat → Int32) × (Nat → Nat → Int32) => wd4 cI h ad u.1 u.2) (u := (va_up (va_up Ic_1 16 rc_1) 18 (0 : Int32), Rc_1)) hx hb hr hK hP hD hS hq dX4_best_36 hlocks
  · have hq := hq.2 hc
    refine lv_iconst (v := (-1 : Int32)) hx hb dX4_best_16 (by decide) ?_
    exact w_iret (post := fun r (u : (Nat → Int32) × (Nat → Nat → Int32)) => post r u.1 u.2) (wf := fun u : (Nat → Int32) × (Nat → Nat → Int32) => wd4 cI h ad u.1 u.2) (u := (Ic_1, Rc_1)) hx hb hr hK hP hD hS hq dX4_best_17 hlocks
def qX4_in (post : Int32 → Prop) (p1 : Int32) (p2 : Int32) (p3 : Int32) : Prop := ((p1 < p2) → (post (0 : Int32))) ∧ ((¬ p1 < p2) → (((p3 < p1) → (post (0 : Int32))) ∧ ((¬ p3 < p1) → (post (1 : Int32)))))
set_option maxHeartbeats 4000000 in
set_option maxRecDepth 100000 in
theorem tX4_in (l : Launch) (post : Int32 → Prop) (p1 : Int32) (p2 : Int32) (p3 : Int32) (hq : qX4_in post p1 p2 p3) : Met l yX4_in wsX4_in ({ frames := 0, cells := 0, slots := 0, locals := 0 } : Room) (fun v _ => v = ([.int p1, .int p2, .int p3] : List Value).toArray) (vp_Si post) 0 0 (fun _ => False) := by
  unfold qX4_in at hq
  refine Met.ofW (cc := cX4_in) (maxL := 3) (ret := (some .boolean)) (by decide) rfl ?_
  intro p e s m args below meth c s₁ B hml hv
  obtain rfl := hv
  have hx := B.exec
  have hb := B.bytes
  have hr := B.returns
  have hts := atoms_spec (ws := wsX4_in) B.pre
  have hown : s.vm.findClass RX4 = some m.cls := findClass_of_methodNamed B.named
  have hlocks := B.notSynchronized
  have hl := lv_entry ([.int p1, .int p2, .int p3]) (n := 3) (Nat.le_of_ble_eq_true rfl)
  rw [lg_entry_eq]
  generalize (lg_sl ([.int p1, .int p2, .int p3]) ++ List.replicate (3 - (lg_sl ([.int p1, .int p2, .int p3])).length) Slot.unset).toArray = ls at hl ⊢
  have hl : lv_has ls 3 [(0, .int p1), (1, .int p2), (2, .int p3)] := hl
  refine lv_iload_n hx hb dX4_in_0 rfl (lv_at hl 0 rfl) ?_
  refine lv_iload_n hx hb dX4_in_1 rfl (lv_at hl 1 rfl) ?_
  refine lv_icmp_lt (tgt := 14) hx hb dX4_in_2 (by decide) (fun hc => ?_) (fun hc => ?_)
  · have hq := hq.1 hc
    refine lv_iconst (v := (0 : Int32)) hx hb dX4_in_14 (by decide) ?_
    exact s_zret hx hb hr rfl hq dX4_in_15 hlocks
  · have hq := hq.2 hc
    refine lv_iload_n hx hb dX4_in_5 rfl (lv_at hl 0 rfl) ?_
    refine lv_iload_n hx hb dX4_in_6 rfl (lv_at hl 2 rfl) ?_
    refine lv_icmp_gt (tgt := 14) hx hb dX4_in_7 (by decide) (fun hc => ?_) (fun hc => ?_)
    · have hq := hq.1 hc
      refine lv_iconst (v := (0 : Int32)) hx hb dX4_in_14 (by decide) ?_
      exact s_zret hx hb hr rfl hq dX4_in_15 hlocks
    · have hq := hq.2 hc
      refine lv_iconst (v := (1 : Int32)) hx hb dX4_in_10 (by decide) ?_
      refine lv_goto (tgt := 15) hx hb dX4_in_11 (by decide) ?_
      exact s_zret hx hb hr rfl hq dX4_in_15 hlocks
def qX4_child (post : Int32 → (Nat → Int32) → (Nat → Nat → Int32) → Prop) (p1 : Int32) (I : Nat → Int32) (R : Nat → Nat → Int32) : Prop := ∃ Pc_1 : Int32 → Prop, qX4_in Pc_1 p1 (0 : Int32) (9 : Int32) ∧ (∀ (rc_1 : Int32), Pc_1 rc_1 → (((rc_1 = 0) → (post (-1 : Int32) (va_up I 19 (0 : Int32)) R)) ∧ ((¬ rc_1 = 0) → (((¬ (I 2) = (16 : Int32)) → (vp_in (I 2) 16 ∧ (post (((I 2) + (1 : Int32)) - (1 : Int32)) (va_up (va_up I 19 (0 : Int32)) 2 ((I 2) + (1 : Int32))) (va_up (va_up R 0 (upd (R 0) (I 2).toNatClampNeg p1)) 1 (upd (R 1) (I 2).toNatClampNeg (7 : Int32)))))) ∧ (((I 2) = (16 : Int32)) → (post (-1 : Int32) (va_up I 19 (0 : Int32)) R))))))
theorem mX4_child_f71 : Cond.fieldLink RX4 71 "YearBookModel" "thrown" "I" ∈ wsX4_child := by decide +kernel
theorem nX4_child_X4 : ∀ w ∈ u_ws RX4 TX4 27, w ∈ wsX4_child := by decide +kernel
theorem mX4_child_f81 : Cond.fieldLink RX4 81 "YearBookModel" "children" "I" ∈ wsX4_child := by decide +kernel
theorem mX4_child_f9 : Cond.fieldLink RX4 9 "YearBookModel" "room" "[I" ∈ wsX4_child := by decide +kernel
theorem mX4_child_f13 : Cond.fieldLink RX4 13 "YearBookModel" "consent" "[I" ∈ wsX4_child := by decide +kernel
set_option maxHeartbeats 4000000 in
set_option maxRecDepth 100000 in
theorem tX4_child (l : Launch) (dC : Nat → ClassId) (dI : Nat → Nat → Nat) (cI : ClassId) (h : Nat) (ad : Nat → Nat)  (sz : Nat) (post : Int32 → (Nat → Int32) → (Nat → Nat → Int32) → Prop) (p1 : Int32) (I : Nat → Int32) (R : Nat → Nat → Int32) (hq : qX4_child post p1 I R) : Met l yX4_child wsX4_child ({ frames := 1, cells := 0, slots := 0, locals := 22 } : Room) (va_Pc [.ref h, .int p1] (wPre (dC, dI) vwCl [(cI, .int)] (wd4 cI h ad I R) sz)) (va_Qi (fun r (u : (Nat → Int32) × (Nat → Nat → Int32)) => post r u.1 u.2) (wAt (dC, dI) vwCl [(cI, .int)] (va_A (wd4 cI h ad I R) sz) (fun u : (Nat → Int32) × (Nat → Nat → Int32) => wd4 cI h ad u.1 u.2)) (va_A (wd4 cI h ad I R) sz)) 0 0 (va_A (wd4 cI h ad I R) sz) := by
  unfold qX4_child at hq
  refine Met.ofW (cc := cX4_child) (maxL := 2) (ret := (some .int)) (by decide) rfl ?_
  intro p e s m args below meth c s₁ B hml hv
  obtain ⟨rfl, hsz, hP, hK, hD0⟩ := hv
  have hx := B.exec
  have hb := B.bytes
  have hr := B.returns
  have hts := atoms_spec (ws := wsX4_child) B.pre
  have hown : s.vm.findClass RX4 = some m.cls := findClass_of_methodNamed B.named
  have hlocks := B.notSynchronized
  subst hsz
  have hD := hD0.self (sz := s.heap.size)
  generalize hAe : va_A (wd4 cI h ad I R) s.heap.size = A at hD ⊢
  have hA : ∀ q : Nat, s.heap.size ≤ q → A q := fun q h => by rw [← hAe]; exact Or.inr h
  have hS : va_S A s.heap s.heap [] := va_S.rf
  have hl := lv_entry ([.ref h, .int p1]) (n := 2) (Nat.le_of_ble_eq_true rfl)
  rw [lg_entry_eq]
  generalize (lg_sl ([.ref h, .int p1]) ++ List.replicate (2 - (lg_sl ([.ref h, .int p1])).length) Slot.unset).toArray = ls at hl ⊢
  have hl : lv_has ls 2 [(0, .ref h), (1, .int p1)] := hl
  refine lv_aload_n hx hb dX4_child_0 rfl (lv_at hl 0 rfl) ?_
  refine lv_iconst (v := (0 : Int32)) hx hb dX4_child_1 (by decide) ?_
  refine va_put (D := (dC, dI)) (ci := 4) (v := .int (0 : Int32)) (ty := .int) (C := RX4) (T := TX4) (N := 27) hx hb hts nX4_child_X4 tyX4 tyX4_ok nmX4 hown hK hP hD hS 0 rfl rfl 19 (by decide) (hts _ mX4_child_f71) (fun _ h9 => h9) rfl (by decide +kernel) rfl rfl (Nat.le_of_ble_eq_true rfl) dX4_child_2 (fun H locs hP hD hS => ?_)
  rw [wd4_I19] at hP hD
  refine lv_iload_n hx hb dX4_child_5 rfl (lv_at hl 1 rfl) ?_
  refine lv_iconst (v := (0 : Int32)) hx hb dX4_child_6 (by decide) ?_
  refine lv_bipush (v := (9 : Int32)) hx hb dX4_child_7 (by decide) ?_
  obtain ⟨Pc_1, hc, hq⟩ := hq
  refine vp_callSi (W.runS (As := [.int p1, .int (0 : Int32), .int (9 : Int32)]) (rest := []) ⟨hx, hb, hml, hown, hts⟩ (tX4_in l Pc_1 p1 (0 : Int32) (9 : Int32) hc) (va_cwS 3 hts gX4_child_X4_in rfl rfl rfl (by decide +kernel) ⟨Nat.le_of_ble_eq_true rfl, Nat.le_of_ble_eq_true rfl⟩) preEq rfl rfl hl.1 rfl (lv_room (Nat.le_of_ble_eq_true rfl)) dX4_child_9 ⟨Nat.le_of_ble_eq_true rfl, Nat.le_of_ble_eq_true rfl⟩) (fun rc_1 hp => ?_)
  have hq := hq rc_1 hp
  refine lv_if_eq (tgt := 24) hx hb dX4_child_12 (by decide) (fun hc => ?_) (fun hc => ?_)
  · have hq := hq.1 hc
    refine lv_iconst (v := (-1 : Int32)) hx hb dX4_child_24 (by decide) ?_
    exact w_iret (post := fun r (u : (Nat → Int32) × (Nat → Nat → Int32)) => post r u.1 u.2) (wf := fun u : (Nat → Int32) × (Nat → Nat → Int32) => wd4 cI h ad u.1 u.2) (u := (va_up I 19 (0 : Int32), R)) hx hb hr hK hP hD hS hq dX4_child_25 hlocks
  · have hq := hq.2 hc
    refine lv_aload_n hx hb dX4_child_15 rfl (lv_at hl 0 rfl) ?_
    refine va_get (D := (dC, dI)) (ci := 4) (v := .int (I 2)) (C := RX4) (T := TX4) (N := 27) hx hb hts nX4_child_X4 hown hK hP 0 rfl rfl 2 (by decide) (hts _ mX4_child_f81) (fun _ h9 => h9) rfl dX4_child_16 ?_
    refine lv_bipush (v := (16 : Int32)) hx hb dX4_child_19 (by decide) ?_
    refine lv_icmp_ne (tgt := 26) hx hb dX4_child_21 (by decide) (fun hc => ?_) (fun hc => ?_)
    · have hq := hq.1 hc
      refine lv_aload_n hx hb dX4_child_26 rfl (lv_at hl 0 rfl) ?_
      refine va_get (D := (dC, dI)) (ci := 4) (v := .ref (ad 0)) (C := RX4) (T := TX4) (N := 27) hx hb hts nX4_child_X4 hown hK hP 0 rfl rfl 0 (by decide) (hts _ mX4_child_f9) (fun _ h9 => h9) rfl dX4_child_27 ?_
      refine lv_aload_n hx hb dX4_child_30 rfl (lv_at hl 0 rfl) ?_
      refine va_get (D := (dC, dI)) (ci := 4) (v := .int (I 2)) (C := RX4) (T := TX4) (N := 27) hx hb hts nX4_child_X4 hown hK hP 0 rfl rfl 2 (by decide) (hts _ mX4_child_f81) (fun _ h9 => h9) rfl dX4_child_31 ?_
      refine lv_iload_n hx hb dX4_child_34 rfl (lv_at hl 1 rfl) ?_
      obtain ⟨hi_2, hq⟩ := hq
      refine va_iast (f := R 0) hx hb hK hP hD hS 1 0 rfl rfl hi_2 dX4_child_35 (fun H locs hP hD hS => ?_)
      rw [wd4_R0] at hP hD
      refine lv_aload_n hx hb dX4_child_36 rfl (lv_at hl 0 rfl) ?_
      refine va_get (D := (dC, dI)) (ci := 4) (v := .ref (ad 1)) (C := RX4) (T := TX4) (N := 27) hx hb hts nX4_child_X4 hown hK hP 0 rfl rfl 1 (by decide) (hts _ mX4_child_f13) (fun _ h9 => h9) rfl dX4_child_37 ?_
      refine lv_aload_n hx hb dX4_child_40 rfl (lv_at hl 0 rfl) ?_
      refine va_get (D := (dC, dI)) (ci := 4) (v := .int (I 2)) (C := RX4) (T := TX4) (N := 27) hx hb hts nX4_child_X4 hown hK hP 0 rfl rfl 2 (by decide) (hts _ mX4_child_f81) (fun _ h9 => h9) rfl dX4_child_41 ?_
      refine lv_bipush (v := (7 : Int32)) hx hb dX4_child_44 (by decide) ?_
      refine va_iast (f := R 1) hx hb hK hP hD hS 2 0 rfl rfl hi_2 dX4_child_46 (fun H locs hP hD hS => ?_)
      rw [wd4_R1] at hP hD
      refine lv_aload_n hx hb dX4_child_47 rfl (lv_at hl 0 rfl) ?_
      refine lv_dup hx hb dX4_child_48 rfl ?_
      refine va_get (D := (dC, dI)) (ci := 4) (v := .int (I 2)) (C := RX4) (T := TX4) (N := 27) hx hb hts nX4_child_X4 hown hK hP 0 rfl rfl 2 (by decide) (hts _ mX4_child_f81) (fun _ h9 => h9) rfl dX4_child_49 ?_
      refine lv_iconst (v := (1 : Int32)) hx hb dX4_child_52 (by decide) ?_
      refine lv_iadd hx hb dX4_child_53 ?_
      refine va_put (D := (dC, dI)) (ci := 4) (v := .int ((I 2) + (1 : Int32))) (ty := .int) (C := RX4) (T := TX4) (N := 27) hx hb hts nX4_child_X4 tyX4 tyX4_ok nmX4 hown hK hP hD hS 0 rfl rfl 2 (by decide) (hts _ mX4_child_f81) (fun _ h9 => h9) rfl (by decide +kernel) rfl rfl (Nat.le_of_ble_eq_true rfl) dX4_child_54 (fun H locs hP hD hS => ?_)
      rw [wd4_I2] at hP hD
      refine lv_aload_n hx hb dX4_child_57 rfl (lv_at hl 0 rfl) ?_
      refine va_get (D := (dC, dI)) (ci := 4) (v := .int ((I 2) + (1 : Int32))) (C := RX4) (T := TX4) (N := 27) hx hb hts nX4_child_X4 hown hK hP 0 rfl rfl 2 (by decide) (hts _ mX4_child_f81) (fun _ h9 => h9) rfl dX4_child_58 ?_
      refine lv_iconst (v := (1 : Int32)) hx hb dX4_child_61 (by decide) ?_
      refine lv_isub hx hb dX4_child_62 ?_
      exact w_iret (post := fun r (u : (Nat → Int32) × (Nat → Nat → Int32)) => post r u.1 u.2) (wf := fun u : (Nat → Int32) × (Nat → Nat → Int32) => wd4 cI h ad u.1 u.2) (u := (va_up (va_up I 19 (0 : Int32)) 2 ((I 2) + (1 : Int32)), va_up (va_up R 0 (upd (R 0) (I 2).toNatClampNeg p1)) 1 (upd (R 1) (I 2).toNatClampNeg (7 : Int32)))) hx hb hr hK hP hD hS hq dX4_child_63 hlocks
    · have hq := hq.2 hc
      refine lv_iconst (v := (-1 : Int32)) hx hb dX4_child_24 (by decide) ?_
      exact w_iret (post := fun r (u : (Nat → Int32) × (Nat → Nat → Int32)) => post r u.1 u.2) (wf := fun u : (Nat → Int32) × (Nat → Nat → Int32) => wd4 cI h ad u.1 u.2) (u := (va_up I 19 (0 : Int32), R)) hx hb hr hK hP hD hS hq dX4_child_25 hlocks
def zX4_choices (post : Int32 → (Nat → Int32) → (Nat → Nat → Int32) → Prop) (X18 : Int32 → Int32 → Int32 → (Nat → Int32) → (Nat → Nat → Int32) → Prop) : Prop :=
  (∀ (x1 : Int32) (x2 : Int32) (x3 : Int32) (I : Nat → Int32) (R : Nat → Nat → Int32), (((((1 : Int32) <<< ((I 11) &&& 31)) ≤ x3) → (post x2 I R)) ∧ ((¬ ((1 : Int32) <<< ((I 11) &&& 31)) ≤ x3) → (((¬ (x3 &&& (x1 ^^^ (-1 : Int32))) = 0) → (X18 x1 x2 (x3 + (1 : Int32)) I R)) ∧ (((x3 &&& (x1 ^^^ (-1 : Int32))) = 0) → (∃ Pc_3 : Int32 → Prop, qX4_why Pc_3 x3 I R ∧ (∀ (rc_3 : Int32), Pc_3 rc_3 → (((¬ rc_3 = 0) → (X18 x1 x2 (x3 + (1 : Int32)) I R)) ∧ ((rc_3 = 0) → (X18 x1 (x2 + (1 : Int32)) (x3 + (1 : Int32)) I R))))))))) → X18 x1 x2 x3 I R)
def qX4_choices_18 (post : Int32 → (Nat → Int32) → (Nat → Nat → Int32) → Prop) (x1 : Int32) (x2 : Int32) (x3 : Int32) (I : Nat → Int32) (R : Nat → Nat → Int32) : Prop := ∀ (X18 : Int32 → Int32 → Int32 → (Nat → Int32) → (Nat → Nat → Int32) → Prop), zX4_choices post X18 → X18 x1 x2 x3 I R
theorem kX4_choices_18 {post : Int32 → (Nat → Int32) → (Nat → Nat → Int32) → Prop} {x1 : Int32} {x2 : Int32} {x3 : Int32} {I : Nat → Int32} {R : Nat → Nat → Int32} (h : ((((1 : Int32) <<< ((I 11) &&& 31)) ≤ x3) → (post x2 I R)) ∧ ((¬ ((1 : Int32) <<< ((I 11) &&& 31)) ≤ x3) → (((¬ (x3 &&& (x1 ^^^ (-1 : Int32))) = 0) → (qX4_choices_18 post x1 x2 (x3 + (1 : Int32)) I R)) ∧ (((x3 &&& (x1 ^^^ (-1 : Int32))) = 0) → (∃ Pc_3 : Int32 → Prop, qX4_why Pc_3 x3 I R ∧ (∀ (rc_3 : Int32), Pc_3 rc_3 → (((¬ rc_3 = 0) → (qX4_choices_18 post x1 x2 (x3 + (1 : Int32)) I R)) ∧ ((rc_3 = 0) → (qX4_choices_18 post x1 (x2 + (1 : Int32)) (x3 + (1 : Int32)) I R))))))))) : qX4_choices_18 post x1 x2 x3 I R := by
  intro Z18 hcl
  refine hcl x1 x2 x3 I R ?_
  refine ⟨fun c => ?_, fun c => ?_⟩
  · have h := h.1 c
    exact h
  · have h := h.2 c
    refine ⟨fun c => ?_, fun c => ?_⟩
    · have h := h.1 c
      exact h _ hcl
    · have h := h.2 c
      obtain ⟨P, h1, h2⟩ := h
      refine ⟨P, h1, fun b0 hp => ?_⟩
      have h := h2 b0 hp
      refine ⟨fun c => ?_, fun c => ?_⟩
      · have h := h.1 c
        exact h _ hcl
      · have h := h.2 c
        exact h _ hcl
def qX4_choices (post : Int32 → (Nat → Int32) → (Nat → Nat → Int32) → Prop) (I : Nat → Int32) (R : Nat → Nat → Int32) : Prop := ∃ Pc_1 : Int32 → (Nat → Int32) → (Nat → Nat → Int32) → Prop, qX4_good Pc_1  (va_up I 19 (0 : Int32)) R ∧ (∀ (rc_1 : Int32) (Ic_1 : Nat → Int32) (Rc_1 : Nat → Nat → Int32), Pc_1 rc_1 Ic_1 Rc_1 → (∃ Pc_2 : (Nat → Int32) → (Nat → Nat → Int32) → Prop, qX4_takeSeen Pc_2  Ic_1 Rc_1 ∧ (∀ (Ic_2 : Nat → Int32) (Rc_2 : Nat → Nat → Int32), Pc_2 Ic_2 Rc_2 → (qX4_choices_18 post rc_1 (0 : Int32) (0 : Int32) Ic_2 Rc_2))))
theorem mX4_choices_f71 : Cond.fieldLink RX4 71 "YearBookModel" "thrown" "I" ∈ wsX4_choices := by decide +kernel
theorem nX4_choices_X4 : ∀ w ∈ u_ws RX4 TX4 27, w ∈ wsX4_choices := by decide +kernel
theorem mX4_choices_f74 : Cond.fieldLink RX4 74 "YearBookModel" "pictures" "I" ∈ wsX4_choices := by decide +kernel
set_option maxHeartbeats 4000000 in
set_option maxRecDepth 100000 in
theorem tX4_choices (l : Launch) (dC : Nat → ClassId) (dI : Nat → Nat → Nat) (cI : ClassId) (h : Nat) (ad : Nat → Nat)  (sz : Nat) (post : Int32 → (Nat → Int32) → (Nat → Nat → Int32) → Prop) (I : Nat → Int32) (R : Nat → Nat → Int32) (hq : qX4_choices post I R) : Met l yX4_choices wsX4_choices ({ frames := 5, cells := 0, slots := 0, locals := 118 } : Room) (va_Pc [.ref h] (wPre (dC, dI) vwCl [(cI, .int)] (wd4 cI h ad I R) sz)) (va_Qi (fun r (u : (Nat → Int32) × (Nat → Nat → Int32)) => post r u.1 u.2) (wAt (dC, dI) vwCl [(cI, .int)] (va_A (wd4 cI h ad I R) sz) (fun u : (Nat → Int32) × (Nat → Nat → Int32) => wd4 cI h ad u.1 u.2)) (va_A (wd4 cI h ad I R) sz)) 0 0 (va_A (wd4 cI h ad I R) sz) := by
  unfold qX4_choices at hq
  refine Met.ofW (cc := cX4_choices) (maxL := 4) (ret := (some .int)) (by decide) rfl ?_
  intro p e s m args below meth c s₁ B hml hv
  obtain ⟨rfl, hsz, hP, hK, hD0⟩ := hv
  have hx := B.exec
  have hb := B.bytes
  have hr := B.returns
  have hts := atoms_spec (ws := wsX4_choices) B.pre
  have hown : s.vm.findClass RX4 = some m.cls := findClass_of_methodNamed B.named
  have hlocks := B.notSynchronized
  subst hsz
  have hD := hD0.self (sz := s.heap.size)
  generalize hAe : va_A (wd4 cI h ad I R) s.heap.size = A at hD ⊢
  have hA : ∀ q : Nat, s.heap.size ≤ q → A q := fun q h => by rw [← hAe]; exact Or.inr h
  have hS : va_S A s.heap s.heap [] := va_S.rf
  have hZ : zX4_choices post
      (fun (x1 : Int32) (x2 : Int32) (x3 : Int32) (I : Nat → Int32) (R : Nat → Nat → Int32) => ∀ (H : Heap) (locs : List Loc) (ls : Array Slot), va_P (dC, dI) vwCl (wd4 cI h ad I R) H → va_D A (wd4 cI h ad I R) → va_S A s.heap H locs → lv_has ls 4 [(0, .ref h), (1, .int x1), (2, .int x2), (3, .int x3)] → W p l e (headSpec wsX4_choices ({ frames := 5, cells := 0, slots := 0, locals := 118 } : Room)).room s m ([.ref h] : List Value).toArray below meth c H locs 0 0 (MQ below (va_Qi (fun r (u : (Nat → Int32) × (Nat → Nat → Int32)) => post r u.1 u.2) (wAt (dC, dI) vwCl [(cI, .int)] A (fun u : (Nat → Int32) × (Nat → Nat → Int32) => wd4 cI h ad u.1 u.2)) A) ([.ref h] : List Value).toArray s 0 0 A) (F0 m 18 ls [])) := by
    unfold zX4_choices
    intro x1 x2 x3 I R hq H locs ls hP hD hS hl
    refine lv_iload_n hx hb dX4_choices_18 rfl (lv_at hl 3 rfl) ?_
    refine lv_iconst (v := (1 : Int32)) hx hb dX4_choices_19 (by decide) ?_
    refine lv_aload_n hx hb dX4_choices_20 rfl (lv_at hl 0 rfl) ?_
    refine va_get (D := (dC, dI)) (ci := 4) (v := .int (I 11)) (C := RX4) (T := TX4) (N := 27) hx hb hts nX4_choices_X4 hown hK hP 0 rfl rfl 11 (by decide) (hts _ mX4_choices_f74) (fun _ h9 => h9) rfl dX4_choices_21 ?_
    refine lv_ishl hx hb dX4_choices_24 ?_
    refine lv_icmp_ge (tgt := 53) hx hb dX4_choices_25 (by decide) (fun hc => ?_) (fun hc => ?_)
    · have hq := hq.1 hc
      refine lv_iload_n hx hb dX4_choices_53 rfl (lv_at hl 2 rfl) ?_
      exact w_iret (post := fun r (u : (Nat → Int32) × (Nat → Nat → Int32)) => post r u.1 u.2) (wf := fun u : (Nat → Int32) × (Nat → Nat → Int32) => wd4 cI h ad u.1 u.2) (u := (I, R)) hx hb hr hK hP hD hS hq dX4_choices_54 hlocks
    · have hq := hq.2 hc
      refine lv_iload_n hx hb dX4_choices_28 rfl (lv_at hl 3 rfl) ?_
      refine lv_iload_n hx hb dX4_choices_29 rfl (lv_at hl 1 rfl) ?_
      refine lv_iconst (v := (-1 : Int32)) hx hb dX4_choices_30 (by decide) ?_
      refine lv_ixor hx hb dX4_choices_31 ?_
      refine lv_iand hx hb dX4_choices_32 ?_
      refine lv_if_ne (tgt := 47) hx hb dX4_choices_33 (by decide) (fun hc => ?_) (fun hc => ?_)
      · have hq := hq.1 hc
        refine lv_iinc (v := x3 + (1 : Int32)) (lv' := [(3, .int (x3 + (1 : Int32))), (0, .ref h), (1, .int x1), (2, .int x2)]) hx hb dX4_choices_47 hl (k := 3) rfl rfl (by decide) rfl (fun ls hl => ?_)
        refine lv_goto (tgt := 18) hx hb dX4_choices_50 (by decide) ?_
        exact hq _ _ ls hP hD hS (lv_sub hl [1, 2, 3, 0] rfl)
      · have hq := hq.2 hc
        refine lv_aload_n hx hb dX4_choices_36 rfl (lv_at hl 0 rfl) ?_
        refine lv_iload_n hx hb dX4_choices_37 rfl (lv_at hl 3 rfl) ?_
        obtain ⟨Pc_3, hc, hq⟩ := hq
        refine w_calli (wf := fun _ : Unit => wd4 cI h ad I R) (va_runV (As := [.int x3]) (rest := []) ⟨hx, hb, hml, hown, hts⟩ (tX4_why l dC dI cI h ad _ Pc_3 x3 I R hc) (cwV 1 hts gX4_choices_X4_why rfl rfl rfl (by decide +kernel) ⟨Nat.le_of_ble_eq_true rfl, Nat.le_of_ble_eq_true rfl⟩) (wPreV hK hP hD (ci := 4) (q0 := 0) rfl rfl) rfl rfl hl.1 rfl (lv_room (Nat.le_of_ble_eq_true rfl)) dX4_choices_38 ⟨Nat.le_of_ble_eq_true rfl, Nat.le_of_ble_eq_true rfl⟩) hD hS hA (fun rc_3 u H locs hp hP hD hS => ?_)
        have hq := hq rc_3 hp
        have hP : va_P (dC, dI) vwCl (wd4 cI h ad I R) H := hP
        have hD : va_D A (wd4 cI h ad I R) := hD
        refine lv_if_ne (tgt := 47) hx hb dX4_choices_41 (by decide) (fun hc => ?_) (fun hc => ?_)
        · have hq := hq.1 hc
          refine lv_iinc (v := x3 + (1 : Int32)) (lv' := [(3, .int (x3 + (1 : Int32))), (0, .ref h), (1, .int x1), (2, .int x2)]) hx hb dX4_choices_47 hl (k := 3) rfl rfl (by decide) rfl (fun ls hl => ?_)
          refine lv_goto (tgt := 18) hx hb dX4_choices_50 (by decide) ?_
          exact hq _ _ ls hP hD hS (lv_sub hl [1, 2, 3, 0] rfl)
        · have hq := hq.2 hc
          refine lv_iinc (v := x2 + (1 : Int32)) (lv' := [(2, .int (x2 + (1 : Int32))), (0, .ref h), (1, .int x1), (3, .int x3)]) hx hb dX4_choices_44 hl (k := 2) rfl rfl (by decide) rfl (fun ls hl => ?_)
          refine lv_iinc (v := x3 + (1 : Int32)) (lv' := [(3, .int (x3 + (1 : Int32))), (2, .int (x2 + (1 : Int32))), (0, .ref h), (1, .int x1)]) hx hb dX4_choices_47 hl (k := 3) rfl rfl (by decide) rfl (fun ls hl => ?_)
          refine lv_goto (tgt := 18) hx hb dX4_choices_50 (by decide) ?_
          exact hq _ _ ls hP hD hS (lv_sub hl [2, 3, 1, 0] rfl)
  have hl := lv_entry ([.ref h]) (n := 4) (Nat.le_of_ble_eq_true rfl)
  rw [lg_entry_eq]
  generalize (lg_sl ([.ref h]) ++ List.replicate (4 - (lg_sl ([.ref h])).length) Slot.unset).toArray = ls at hl ⊢
  have hl : lv_has ls 4 [(0, .ref h)] := hl
  refine lv_aload_n hx hb dX4_choices_0 rfl (lv_at hl 0 rfl) ?_
  refine lv_iconst (v := (0 : Int32)) hx hb dX4_choices_1 (by decide) ?_
  refine va_put (D := (dC, dI)) (ci := 4) (v := .int (0 : Int32)) (ty := .int) (C := RX4) (T := TX4) (N := 27) hx hb hts nX4_choices_X4 tyX4 tyX4_ok nmX4 hown hK hP hD hS 0 rfl rfl 19 (by decide) (hts _ mX4_choices_f71) (fun _ h9 => h9) rfl (by decide +kernel) rfl rfl (Nat.le_of_ble_eq_true rfl) dX4_choices_2 (fun H locs hP hD hS => ?_)
  rw [wd4_I19] at hP hD
  refine lv_aload_n hx hb dX4_choices_5 rfl (lv_at hl 0 rfl) ?_
  obtain ⟨Pc_1, hc, hq⟩ := hq
  refine w_calli (wf := fun u : (Nat → Int32) × (Nat → Nat → Int32) => wd4 cI h ad u.1 u.2) (va_runV (As := []) (rest := []) ⟨hx, hb, hml, hown, hts⟩ (tX4_good l dC dI cI h ad _ Pc_1  (va_up I 19 (0 : Int32)) R hc) (cwV 0 hts gX4_choices_X4_good rfl rfl rfl (by decide +kernel) ⟨Nat.le_of_ble_eq_true rfl, Nat.le_of_ble_eq_true rfl⟩) (wPreV hK hP hD (ci := 4) (q0 := 0) rfl rfl) rfl rfl hl.1 rfl (lv_room (Nat.le_of_ble_eq_true rfl)) dX4_choices_6 ⟨Nat.le_of_ble_eq_true rfl, Nat.le_of_ble_eq_true rfl⟩) hD hS hA (fun rc_1 u H locs hp hP hD hS => ?_)
  obtain ⟨Ic_1, Rc_1⟩ := u
  have hq := hq rc_1 Ic_1 Rc_1 hp
  have hP : va_P (dC, dI) vwCl (wd4 cI h ad Ic_1 Rc_1) H := hP
  have hD : va_D A (wd4 cI h ad Ic_1 Rc_1) := hD
  refine lv_istore_n (lv' := [(1, .int rc_1), (0, .ref h)]) hx hb dX4_choices_9 rfl hl (by decide) rfl (fun ls hl => ?_)
  refine lv_aload_n hx hb dX4_choices_10 rfl (lv_at hl 1 rfl) ?_
  obtain ⟨Pc_2, hc, hq⟩ := hq
  refine w_callv (wf := fun u : (Nat → Int32) × (Nat → Nat → Int32) => wd4 cI h ad u.1 u.2) (va_runV (As := []) (rest := []) ⟨hx, hb, hml, hown, hts⟩ (tX4_takeSeen l dC dI cI h ad _ Pc_2  Ic_1 Rc_1 hc) (cwV 0 hts gX4_choices_X4_takeSeen rfl rfl rfl (by decide +kernel) ⟨Nat.le_of_ble_eq_true rfl, Nat.le_of_ble_eq_true rfl⟩) (wPreV hK hP hD (ci := 4) (q0 := 0) rfl rfl) rfl rfl hl.1 rfl (lv_room (Nat.le_of_ble_eq_true rfl)) dX4_choices_11 ⟨Nat.le_of_ble_eq_true rfl, Nat.le_of_ble_eq_true rfl⟩) hD hS hA (fun u H locs hp hP hD hS => ?_)
  obtain ⟨Ic_2, Rc_2⟩ := u
  have hq := hq Ic_2 Rc_2 hp
  have hP : va_P (dC, dI) vwCl (wd4 cI h ad Ic_2 Rc_2) H := hP
  have hD : va_D A (wd4 cI h ad Ic_2 Rc_2) := hD
  refine lv_iconst (v := (0 : Int32)) hx hb dX4_choices_14 (by decide) ?_
  refine lv_istore_n (lv' := [(2, .int (0 : Int32)), (1, .int rc_1), (0, .ref h)]) hx hb dX4_choices_15 rfl hl (by decide) rfl (fun ls hl => ?_)
  refine lv_iconst (v := (0 : Int32)) hx hb dX4_choices_16 (by decide) ?_
  refine lv_istore_n (lv' := [(3, .int (0 : Int32)), (2, .int (0 : Int32)), (1, .int rc_1), (0, .ref h)]) hx hb dX4_choices_17 rfl hl (by decide) rfl (fun ls hl => ?_)
  exact hq _ hZ _ _ ls hP hD hS (lv_sub hl [3, 2, 1, 0] rfl)
def qX4_choose (post : Int32 → (Nat → Int32) → (Nat → Nat → Int32) → Prop) (p1 : Int32) (I : Nat → Int32) (R : Nat → Nat → Int32) : Prop := ∃ Pc_1 : Int32 → Prop, qX4_in Pc_1 p1 (0 : Int32) (((1 : Int32) <<< ((I 11) &&& 31)) - (1 : Int32)) ∧ (∀ (rc_1 : Int32), Pc_1 rc_1 → (((¬ rc_1 = 0) → (post (1 : Int32) (va_up (va_up (va_up I 19 (0 : Int32)) 16 p1) 18 (0 : Int32)) R)) ∧ ((rc_1 = 0) → (post (0 : Int32) (va_up I 19 (0 : Int32)) R))))
theorem mX4_choose_f71 : Cond.fieldLink RX4 71 "YearBookModel" "thrown" "I" ∈ wsX4_choose := by decide +kernel
theorem nX4_choose_X4 : ∀ w ∈ u_ws RX4 TX4 27, w ∈ wsX4_choose := by decide +kernel
theorem mX4_choose_f74 : Cond.fieldLink RX4 74 "YearBookModel" "pictures" "I" ∈ wsX4_choose := by decide +kernel
theorem mX4_choose_f108 : Cond.fieldLink RX4 108 "YearBookModel" "choice" "I" ∈ wsX4_choose := by decide +kernel
theorem mX4_choose_f114 : Cond.fieldLink RX4 114 "YearBookModel" "pageMany" "I" ∈ wsX4_choose := by decide +kernel
set_option maxHeartbeats 4000000 in
set_option maxRecDepth 100000 in
theorem tX4_choose (l : Launch) (dC : Nat → ClassId) (dI : Nat → Nat → Nat) (cI : ClassId) (h : Nat) (ad : Nat → Nat)  (sz : Nat) (post : Int32 → (Nat → Int32) → (Nat → Nat → Int32) → Prop) (p1 : Int32) (I : Nat → Int32) (R : Nat → Nat → Int32) (hq : qX4_choose post p1 I R) : Met l yX4_choose wsX4_choose ({ frames := 1, cells := 0, slots := 0, locals := 22 } : Room) (va_Pc [.ref h, .int p1] (wPre (dC, dI) vwCl [(cI, .int)] (wd4 cI h ad I R) sz)) (va_Qi (fun r (u : (Nat → Int32) × (Nat → Nat → Int32)) => post r u.1 u.2) (wAt (dC, dI) vwCl [(cI, .int)] (va_A (wd4 cI h ad I R) sz) (fun u : (Nat → Int32) × (Nat → Nat → Int32) => wd4 cI h ad u.1 u.2)) (va_A (wd4 cI h ad I R) sz)) 0 0 (va_A (wd4 cI h ad I R) sz) := by
  unfold qX4_choose at hq
  refine Met.ofW (cc := cX4_choose) (maxL := 2) (ret := (some .boolean)) (by decide) rfl ?_
  intro p e s m args below meth c s₁ B hml hv
  obtain ⟨rfl, hsz, hP, hK, hD0⟩ := hv
  have hx := B.exec
  have hb := B.bytes
  have hr := B.returns
  have hts := atoms_spec (ws := wsX4_choose) B.pre
  have hown : s.vm.findClass RX4 = some m.cls := findClass_of_methodNamed B.named
  have hlocks := B.notSynchronized
  subst hsz
  have hD := hD0.self (sz := s.heap.size)
  generalize hAe : va_A (wd4 cI h ad I R) s.heap.size = A at hD ⊢
  have hA : ∀ q : Nat, s.heap.size ≤ q → A q := fun q h => by rw [← hAe]; exact Or.inr h
  have hS : va_S A s.heap s.heap [] := va_S.rf
  have hl := lv_entry ([.ref h, .int p1]) (n := 2) (Nat.le_of_ble_eq_true rfl)
  rw [lg_entry_eq]
  generalize (lg_sl ([.ref h, .int p1]) ++ List.replicate (2 - (lg_sl ([.ref h, .int p1])).length) Slot.unset).toArray = ls at hl ⊢
  have hl : lv_has ls 2 [(0, .ref h), (1, .int p1)] := hl
  refine lv_aload_n hx hb dX4_choose_0 rfl (lv_at hl 0 rfl) ?_
  refine lv_iconst (v := (0 : Int32)) hx hb dX4_choose_1 (by decide) ?_
  refine va_put (D := (dC, dI)) (ci := 4) (v := .int (0 : Int32)) (ty := .int) (C := RX4) (T := TX4) (N := 27) hx hb hts nX4_choose_X4 tyX4 tyX4_ok nmX4 hown hK hP hD hS 0 rfl rfl 19 (by decide) (hts _ mX4_choose_f71) (fun _ h9 => h9) rfl (by decide +kernel) rfl rfl (Nat.le_of_ble_eq_true rfl) dX4_choose_2 (fun H locs hP hD hS => ?_)
  rw [wd4_I19] at hP hD
  refine lv_iload_n hx hb dX4_choose_5 rfl (lv_at hl 1 rfl) ?_
  refine lv_iconst (v := (0 : Int32)) hx hb dX4_choose_6 (by decide) ?_
  refine lv_iconst (v := (1 : Int32)) hx hb dX4_choose_7 (by decide) ?_
  refine lv_aload_n hx hb dX4_choose_8 rfl (lv_at hl 0 rfl) ?_
  refine va_get (D := (dC, dI)) (ci := 4) (v := .int (I 11)) (C := RX4) (T := TX4) (N := 27) hx hb hts nX4_choose_X4 hown hK hP 0 rfl rfl 11 (by decide) (hts _ mX4_choose_f74) (fun _ h9 => h9) rfl dX4_choose_9 ?_
  refine lv_ishl hx hb dX4_choose_12 ?_
  refine lv_iconst (v := (1 : Int32)) hx hb dX4_choose_13 (by decide) ?_
  refine lv_isub hx hb dX4_choose_14 ?_
  obtain ⟨Pc_1, hc, hq⟩ := hq
  refine vp_callSi (W.runS (As := [.int p1, .int (0 : Int32), .int (((1 : Int32) <<< ((I 11) &&& 31)) - (1 : Int32))]) (rest := []) ⟨hx, hb, hml, hown, hts⟩ (tX4_in l Pc_1 p1 (0 : Int32) (((1 : Int32) <<< ((I 11) &&& 31)) - (1 : Int32)) hc) (va_cwS 3 hts gX4_choose_X4_in rfl rfl rfl (by decide +kernel) ⟨Nat.le_of_ble_eq_true rfl, Nat.le_of_ble_eq_true rfl⟩) preEq rfl rfl hl.1 rfl (lv_room (Nat.le_of_ble_eq_true rfl)) dX4_choose_15 ⟨Nat.le_of_ble_eq_true rfl, Nat.le_of_ble_eq_true rfl⟩) (fun rc_1 hp => ?_)
  have hq := hq rc_1 hp
  refine lv_if_ne (tgt := 23) hx hb dX4_choose_18 (by decide) (fun hc => ?_) (fun hc => ?_)
  · have hq := hq.1 hc
    refine lv_aload_n hx hb dX4_choose_23 rfl (lv_at hl 0 rfl) ?_
    refine lv_iload_n hx hb dX4_choose_24 rfl (lv_at hl 1 rfl) ?_
    refine va_put (D := (dC, dI)) (ci := 4) (v := .int p1) (ty := .int) (C := RX4) (T := TX4) (N := 27) hx hb hts nX4_choose_X4 tyX4 tyX4_ok nmX4 hown hK hP hD hS 0 rfl rfl 16 (by decide) (hts _ mX4_choose_f108) (fun _ h9 => h9) rfl (by decide +kernel) rfl rfl (Nat.le_of_ble_eq_true rfl) dX4_choose_25 (fun H locs hP hD hS => ?_)
    rw [wd4_I16] at hP hD
    refine lv_aload_n hx hb dX4_choose_28 rfl (lv_at hl 0 rfl) ?_
    refine lv_iconst (v := (0 : Int32)) hx hb dX4_choose_29 (by decide) ?_
    refine va_put (D := (dC, dI)) (ci := 4) (v := .int (0 : Int32)) (ty := .int) (C := RX4) (T := TX4) (N := 27) hx hb hts nX4_choose_X4 tyX4 tyX4_ok nmX4 hown hK hP hD hS 0 rfl rfl 18 (by decide) (hts _ mX4_choose_f114) (fun _ h9 => h9) rfl (by decide +kernel) rfl rfl (Nat.le_of_ble_eq_true rfl) dX4_choose_30 (fun H locs hP hD hS => ?_)
    rw [wd4_I18] at hP hD
    refine lv_iconst (v := (1 : Int32)) hx hb dX4_choose_33 (by decide) ?_
    exact w_zret (post := fun r (u : (Nat → Int32) × (Nat → Nat → Int32)) => post r u.1 u.2) (wf := fun u : (Nat → Int32) × (Nat → Nat → Int32) => wd4 cI h ad u.1 u.2) (u := (va_up (va_up (va_up I 19 (0 : Int32)) 16 p1) 18 (0 : Int32), R)) hx hb hr rfl hK hP hD hS hq dX4_choose_34 hlocks
  · have hq := hq.2 hc
    refine lv_iconst (v := (0 : Int32)) hx hb dX4_choose_21 (by decide) ?_
    exact w_zret (post := fun r (u : (Nat → Int32) × (Nat → Nat → Int32)) => post r u.1 u.2) (wf := fun u : (Nat → Int32) × (Nat → Nat → Int32) => wd4 cI h ad u.1 u.2) (u := (va_up I 19 (0 : Int32), R)) hx hb hr rfl hK hP hD hS hq dX4_choose_22 hlocks
def qX4_isChild (post : Int32 → Prop) (p1 : Int32) (I : Nat → Int32) (R : Nat → Nat → Int32) : Prop := ∃ Pc_1 : Int32 → Prop, qX4_in Pc_1 p1 (0 : Int32) ((I 2) - (1 : Int32)) ∧ (∀ (rc_1 : Int32), Pc_1 rc_1 → (narrow .boolean (.int rc_1) = .int rc_1 ∧ post rc_1))
theorem mX4_isChild_f81 : Cond.fieldLink RX4 81 "YearBookModel" "children" "I" ∈ wsX4_isChild := by decide +kernel
theorem nX4_isChild_X4 : ∀ w ∈ u_ws RX4 TX4 27, w ∈ wsX4_isChild := by decide +kernel
set_option maxHeartbeats 4000000 in
set_option maxRecDepth 100000 in
theorem tX4_isChild (l : Launch) (dC : Nat → ClassId) (dI : Nat → Nat → Nat) (cI : ClassId) (h : Nat) (ad : Nat → Nat)  (sz : Nat) (post : Int32 → Prop) (p1 : Int32) (I : Nat → Int32) (R : Nat → Nat → Int32) (hq : qX4_isChild post p1 I R) : Met l yX4_isChild wsX4_isChild ({ frames := 1, cells := 0, slots := 0, locals := 22 } : Room) (va_Pc [.ref h, .int p1] (wPre (dC, dI) vwCl [(cI, .int)] (wd4 cI h ad I R) sz)) (va_Qi (fun r (_ : Unit) => post r ) (wAt (dC, dI) vwCl [(cI, .int)] (va_A (wd4 cI h ad I R) sz) (fun _ : Unit => wd4 cI h ad I R)) (va_A (wd4 cI h ad I R) sz)) 0 0 (va_A (wd4 cI h ad I R) sz) := by
  unfold qX4_isChild at hq
  refine Met.ofW (cc := cX4_isChild) (maxL := 2) (ret := (some .boolean)) (by decide) rfl ?_
  intro p e s m args below meth c s₁ B hml hv
  obtain ⟨rfl, hsz, hP, hK, hD0⟩ := hv
  have hx := B.exec
  have hb := B.bytes
  have hr := B.returns
  have hts := atoms_spec (ws := wsX4_isChild) B.pre
  have hown : s.vm.findClass RX4 = some m.cls := findClass_of_methodNamed B.named
  have hlocks := B.notSynchronized
  subst hsz
  have hD := hD0.self (sz := s.heap.size)
  generalize hAe : va_A (wd4 cI h ad I R) s.heap.size = A at hD ⊢
  have hA : ∀ q : Nat, s.heap.size ≤ q → A q := fun q h => by rw [← hAe]; exact Or.inr h
  have hS : va_S A s.heap s.heap [] := va_S.rf
  have hl := lv_entry ([.ref h, .int p1]) (n := 2) (Nat.le_of_ble_eq_true rfl)
  rw [lg_entry_eq]
  generalize (lg_sl ([.ref h, .int p1]) ++ List.replicate (2 - (lg_sl ([.ref h, .int p1])).length) Slot.unset).toArray = ls at hl ⊢
  have hl : lv_has ls 2 [(0, .ref h), (1, .int p1)] := hl
  refine lv_iload_n hx hb dX4_isChild_0 rfl (lv_at hl 1 rfl) ?_
  refine lv_iconst (v := (0 : Int32)) hx hb dX4_isChild_1 (by decide) ?_
  refine lv_aload_n hx hb dX4_isChild_2 rfl (lv_at hl 0 rfl) ?_
  refine va_get (D := (dC, dI)) (ci := 4) (v := .int (I 2)) (C := RX4) (T := TX4) (N := 27) hx hb hts nX4_isChild_X4 hown hK hP 0 rfl rfl 2 (by decide) (hts _ mX4_isChild_f81) (fun _ h9 => h9) rfl dX4_isChild_3 ?_
  refine lv_iconst (v := (1 : Int32)) hx hb dX4_isChild_6 (by decide) ?_
  refine lv_isub hx hb dX4_isChild_7 ?_
  obtain ⟨Pc_1, hc, hq⟩ := hq
  refine vp_callSi (W.runS (As := [.int p1, .int (0 : Int32), .int ((I 2) - (1 : Int32))]) (rest := []) ⟨hx, hb, hml, hown, hts⟩ (tX4_in l Pc_1 p1 (0 : Int32) ((I 2) - (1 : Int32)) hc) (va_cwS 3 hts gX4_isChild_X4_in rfl rfl rfl (by decide +kernel) ⟨Nat.le_of_ble_eq_true rfl, Nat.le_of_ble_eq_true rfl⟩) preEq rfl rfl hl.1 rfl (lv_room (Nat.le_of_ble_eq_true rfl)) dX4_isChild_8 ⟨Nat.le_of_ble_eq_true rfl, Nat.le_of_ble_eq_true rfl⟩) (fun rc_1 hp => ?_)
  have hq := hq rc_1 hp
  exact w_zret (post := fun r (_ : Unit) => post r ) (wf := fun _ : Unit => wd4 cI h ad I R) (u := ()) hx hb hr hq.1 hK hP hD hS hq.2 dX4_isChild_11 hlocks
def qX4_consent (post : Int32 → (Nat → Int32) → (Nat → Nat → Int32) → Prop) (p1 : Int32) (p2 : Int32) (I : Nat → Int32) (R : Nat → Nat → Int32) : Prop := ∃ Pc_1 : Int32 → Prop, qX4_isChild Pc_1 p1 (va_up I 19 (0 : Int32)) R ∧ (∀ (rc_1 : Int32), Pc_1 rc_1 → (((rc_1 = 0) → (post (-1 : Int32) (va_up I 19 (0 : Int32)) R)) ∧ ((¬ rc_1 = 0) → (∃ Pc_2 : Int32 → Prop, qX4_in Pc_2 p2 (0 : Int32) (7 : Int32) ∧ (∀ (rc_2 : Int32), Pc_2 rc_2 → (((¬ rc_2 = 0) → (vp_in p1 16 ∧ (∀ x3_4 : Int32, x3_4 = R 1 p1.toNatClampNeg → (post x3_4 (va_up I 19 (0 : Int32)) (va_up R 1 (upd (R 1) p1.toNatClampNeg p2)))))) ∧ ((rc_2 = 0) → (post (-1 : Int32) (va_up I 19 (0 : Int32)) R))))))))
theorem mX4_consent_f71 : Cond.fieldLink RX4 71 "YearBookModel" "thrown" "I" ∈ wsX4_consent := by decide +kernel
theorem nX4_consent_X4 : ∀ w ∈ u_ws RX4 TX4 27, w ∈ wsX4_consent := by decide +kernel
theorem mX4_consent_f13 : Cond.fieldLink RX4 13 "YearBookModel" "consent" "[I" ∈ wsX4_consent := by decide +kernel
set_option maxHeartbeats 4000000 in
set_option maxRecDepth 100000 in
theorem tX4_consent (l : Launch) (dC : Nat → ClassId) (dI : Nat → Nat → Nat) (cI : ClassId) (h : Nat) (ad : Nat → Nat)  (sz : Nat) (post : Int32 → (Nat → Int32) → (Nat → Nat → Int32) → Prop) (p1 : Int32) (p2 : Int32) (I : Nat → Int32) (R : Nat → Nat → Int32) (hq : qX4_consent post p1 p2 I R) : Met l yX4_consent wsX4_consent ({ frames := 2, cells := 0, slots := 0, locals := 43 } : Room) (va_Pc [.ref h, .int p1, .int p2] (wPre (dC, dI) vwCl [(cI, .int)] (wd4 cI h ad I R) sz)) (va_Qi (fun r (u : (Nat → Int32) × (Nat → Nat → Int32)) => post r u.1 u.2) (wAt (dC, dI) vwCl [(cI, .int)] (va_A (wd4 cI h ad I R) sz) (fun u : (Nat → Int32) × (Nat → Nat → Int32) => wd4 cI h ad u.1 u.2)) (va_A (wd4 cI h ad I R) sz)) 0 0 (va_A (wd4 cI h ad I R) sz) := by
  unfold qX4_consent at hq
  refine Met.ofW (cc := cX4_consent) (maxL := 4) (ret := (some .int)) (by decide) rfl ?_
  intro p e s m args below meth c s₁ B hml hv
  obtain ⟨rfl, hsz, hP, hK, hD0⟩ := hv
  have hx := B.exec
  have hb := B.bytes
  have hr := B.returns
  have hts := atoms_spec (ws := wsX4_consent) B.pre
  have hown : s.vm.findClass RX4 = some m.cls := findClass_of_methodNamed B.named
  have hlocks := B.notSynchronized
  subst hsz
  have hD := hD0.self (sz := s.heap.size)
  generalize hAe : va_A (wd4 cI h ad I R) s.heap.size = A at hD ⊢
  have hA : ∀ q : Nat, s.heap.size ≤ q → A q := fun q h => by rw [← hAe]; exact Or.inr h
  have hS : va_S A s.heap s.heap [] := va_S.rf
  have hl := lv_entry ([.ref h, .int p1, .int p2]) (n := 4) (Nat.le_of_ble_eq_true rfl)
  rw [lg_entry_eq]
  generalize (lg_sl ([.ref h, .int p1, .int p2]) ++ List.replicate (4 - (lg_sl ([.ref h, .int p1, .int p2])).length) Slot.unset).toArray = ls at hl ⊢
  have hl : lv_has ls 4 [(0, .ref h), (1, .int p1), (2, .int p2)] := hl
  refine lv_aload_n hx hb dX4_consent_0 rfl (lv_at hl 0 rfl) ?_
  refine lv_iconst (v := (0 : Int32)) hx hb dX4_consent_1 (by decide) ?_
  refine va_put (D := (dC, dI)) (ci := 4) (v := .int (0 : Int32)) (ty := .int) (C := RX4) (T := TX4) (N := 27) hx hb hts nX4_consent_X4 tyX4 tyX4_ok nmX4 hown hK hP hD hS 0 rfl rfl 19 (by decide) (hts _ mX4_consent_f71) (fun _ h9 => h9) rfl (by decide +kernel) rfl rfl (Nat.le_of_ble_eq_true rfl) dX4_consent_2 (fun H locs hP hD hS => ?_)
  rw [wd4_I19] at hP hD
  refine lv_aload_n hx hb dX4_consent_5 rfl (lv_at hl 0 rfl) ?_
  refine lv_iload_n hx hb dX4_consent_6 rfl (lv_at hl 1 rfl) ?_
  obtain ⟨Pc_1, hc, hq⟩ := hq
  refine w_calli (wf := fun _ : Unit => wd4 cI h ad (va_up I 19 (0 : Int32)) R) (va_runV (As := [.int p1]) (rest := []) ⟨hx, hb, hml, hown, hts⟩ (tX4_isChild l dC dI cI h ad _ Pc_1 p1 (va_up I 19 (0 : Int32)) R hc) (cwV 1 hts gX4_consent_X4_isChild rfl rfl rfl (by decide +kernel) ⟨Nat.le_of_ble_eq_true rfl, Nat.le_of_ble_eq_true rfl⟩) (wPreV hK hP hD (ci := 4) (q0 := 0) rfl rfl) rfl rfl hl.1 rfl (lv_room (Nat.le_of_ble_eq_true rfl)) dX4_consent_7 ⟨Nat.le_of_ble_eq_true rfl, Nat.le_of_ble_eq_true rfl⟩) hD hS hA (fun rc_1 u H locs hp hP hD hS => ?_)
  have hq := hq rc_1 hp
  have hP : va_P (dC, dI) vwCl (wd4 cI h ad (va_up I 19 (0 : Int32)) R) H := hP
  have hD : va_D A (wd4 cI h ad (va_up I 19 (0 : Int32)) R) := hD
  refine lv_if_eq (tgt := 23) hx hb dX4_consent_10 (by decide) (fun hc => ?_) (fun hc => ?_)
  · have hq := hq.1 hc
    refine lv_iconst (v := (-1 : Int32)) hx hb dX4_consent_23 (by decide) ?_
    exact w_iret (post := fun r (u : (Nat → Int32) × (Nat → Nat → Int32)) => post r u.1 u.2) (wf := fun u : (Nat → Int32) × (Nat → Nat → Int32) => wd4 cI h ad u.1 u.2) (u := (va_up I 19 (0 : Int32), R)) hx hb hr hK hP hD hS hq dX4_consent_24 hlocks
  · have hq := hq.2 hc
    refine lv_iload_n hx hb dX4_consent_13 rfl (lv_at hl 2 rfl) ?_
    refine lv_iconst (v := (0 : Int32)) hx hb dX4_consent_14 (by decide) ?_
    refine lv_bipush (v := (7 : Int32)) hx hb dX4_consent_15 (by decide) ?_
    obtain ⟨Pc_2, hc, hq⟩ := hq
    refine vp_callSi (W.runS (As := [.int p2, .int (0 : Int32), .int (7 : Int32)]) (rest := []) ⟨hx, hb, hml, hown, hts⟩ (tX4_in l Pc_2 p2 (0 : Int32) (7 : Int32) hc) (va_cwS 3 hts gX4_consent_X4_in rfl rfl rfl (by decide +kernel) ⟨Nat.le_of_ble_eq_true rfl, Nat.le_of_ble_eq_true rfl⟩) preEq rfl rfl hl.1 rfl (lv_room (Nat.le_of_ble_eq_true rfl)) dX4_consent_17 ⟨Nat.le_of_ble_eq_true rfl, Nat.le_of_ble_eq_true rfl⟩) (fun rc_2 hp => ?_)
    have hq := hq rc_2 hp
    refine lv_if_ne (tgt := 25) hx hb dX4_consent_20 (by decide) (fun hc => ?_) (fun hc => ?_)
    · have hq := hq.1 hc
      refine lv_aload_n hx hb dX4_consent_25 rfl (lv_at hl 0 rfl) ?_
      refine va_get (D := (dC, dI)) (ci := 4) (v := .ref (ad 1)) (C := RX4) (T := TX4) (N := 27) hx hb hts nX4_consent_X4 hown hK hP 0 rfl rfl 1 (by decide) (hts _ mX4_consent_f13) (fun _ h9 => h9) rfl dX4_consent_26 ?_
      refine lv_iload_n hx hb dX4_consent_29 rfl (lv_at hl 1 rfl) ?_
      obtain ⟨hi_3, hq⟩ := hq
      refine va_iald (f := R 1) hx hb hK hP 2 0 rfl rfl hi_3 dX4_consent_30 ?_
      refine lv_topi (fun x3_4 ex3_4 => ?_)
      have hq := hq x3_4 ex3_4
      refine lv_istore_n (lv' := [(3, .int x3_4), (0, .ref h), (1, .int p1), (2, .int p2)]) hx hb dX4_consent_31 rfl hl (by decide) rfl (fun ls hl => ?_)
      refine lv_aload_n hx hb dX4_consent_32 rfl (lv_at hl 1 rfl) ?_
      refine va_get (D := (dC, dI)) (ci := 4) (v := .ref (ad 1)) (C := RX4) (T := TX4) (N := 27) hx hb hts nX4_consent_X4 hown hK hP 0 rfl rfl 1 (by decide) (hts _ mX4_consent_f13) (fun _ h9 => h9) rfl dX4_consent_33 ?_
      refine lv_iload_n hx hb dX4_consent_36 rfl (lv_at hl 2 rfl) ?_
      refine lv_iload_n hx hb dX4_consent_37 rfl (lv_at hl 3 rfl) ?_
      refine va_iast (f := R 1) hx hb hK hP hD hS 2 0 rfl rfl hi_3 dX4_consent_38 (fun H locs hP hD hS => ?_)
      rw [wd4_R1] at hP hD
      refine lv_iload_n hx hb dX4_consent_39 rfl (lv_at hl 0 rfl) ?_
      exact w_iret (post := fun r (u : (Nat → Int32) × (Nat → Nat → Int32)) => post r u.1 u.2) (wf := fun u : (Nat → Int32) × (Nat → Nat → Int32) => wd4 cI h ad u.1 u.2) (u := (va_up I 19 (0 : Int32), va_up R 1 (upd (R 1) p1.toNatClampNeg p2))) hx hb hr hK hP hD hS hq dX4_consent_40 hlocks
    · have hq := hq.2 hc
      refine lv_iconst (v := (-1 : Int32)) hx hb dX4_consent_23 (by decide) ?_
      exact w_iret (post := fun r (u : (Nat → Int32) × (Nat → Nat → Int32)) => post r u.1 u.2) (wf := fun u : (Nat → Int32) × (Nat → Nat → Int32) => wd4 cI h ad u.1 u.2) (u := (va_up I 19 (0 : Int32), R)) hx hb hr hK hP hD hS hq dX4_consent_24 hlocks
