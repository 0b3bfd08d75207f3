def zX4_timesIn (post : Int32 → (Nat → Int32) → (Nat → Nat → Int32) → Prop) (p1 : Int32) (p2 : Int32) (X5 : Int32 → Int32 → (Nat → Int32) → (Nat → Nat → Int32) → Prop) : Prop :=
  (∀ (x3 : Int32) (x4 : Int32) (I : Nat → Int32) (R : Nat → Nat → Int32), ((((I 11) ≤ x4) → (post x3 I R)) ∧ ((¬ (I 11) ≤ x4) → (((¬ ((p1 >>> (x4 &&& 31)) &&& (1 : Int32)) = (1 : Int32)) → (X5 x3 (x4 + (1 : Int32)) I R)) ∧ ((((p1 >>> (x4 &&& 31)) &&& (1 : Int32)) = (1 : Int32)) → (∃ Pc_1 : Int32 → (Nat → Int32) → (Nat → Nat → Int32) → Prop, qX4_seenIn Pc_1 x4 I R ∧ (∀ (rc_1 : Int32) (Ic_1 : Nat → Int32) (Rc_1 : Nat → Nat → Int32), Pc_1 rc_1 Ic_1 Rc_1 → (∀ x3_2 : Int32, x3_2 = x3 + ((rc_1 >>> (p2 &&& 31)) &&& (1 : Int32)) → (X5 x3_2 (x4 + (1 : Int32)) Ic_1 Rc_1)))))))) → X5 x3 x4 I R)
def qX4_timesIn_5 (post : Int32 → (Nat → Int32) → (Nat → Nat → Int32) → Prop) (p1 : Int32) (p2 : Int32) (x3 : Int32) (x4 : Int32) (I : Nat → Int32) (R : Nat → Nat → Int32) : Prop := ∀ (X5 : Int32 → Int32 → (Nat → Int32) → (Nat → Nat → Int32) → Prop), zX4_timesIn post p1 p2 X5 → X5 x3 x4 I R
theorem kX4_timesIn_5 {post : Int32 → (Nat → Int32) → (Nat → Nat → Int32) → Prop} {p1 : Int32} {p2 : Int32} {x3 : Int32} {x4 : Int32} {I : Nat → Int32} {R : Nat → Nat → Int32} (h : (((I 11) ≤ x4) → (post x3 I R)) ∧ ((¬ (I 11) ≤ x4) → (((¬ ((p1 >>> (x4 &&& 31)) &&& (1 : Int32)) = (1 : Int32)) → (qX4_timesIn_5 post p1 p2 x3 (x4 + (1 : Int32)) I R)) ∧ ((((p1 >>> (x4 &&& 31)) &&& (1 : Int32)) = (1 : Int32)) → (∃ Pc_1 : Int32 → (Nat → Int32) → (Nat → Nat → Int32) → Prop, qX4_seenIn Pc_1 x4 I R ∧ (∀ (rc_1 : Int32) (Ic_1 : Nat → Int32) (Rc_1 : Nat → Nat → Int32), Pc_1 rc_1 Ic_1 Rc_1 → (∀ x3_2 : Int32, x3_2 = x3 + ((rc_1 >>> (p2 &&& 31)) &&& (1 : Int32)) → (qX4_timesIn_5 post p1 p2 x3_2 (x4 + (1 : Int32)) Ic_1 Rc_1)))))))) : qX4_timesIn_5 post p1 p2 x3 x4 I R := by
  intro Z5 hcl
  refine hcl x3 x4 I R ?_
  refine ⟨fun c => ?_, fun c => ?_⟩
  · have h := h.1 c
    exact h
  · have h := h.2 c
    refine ⟨fun c => ?_, fun c => ?_⟩
    · have h := h.1 c
      exact h _ hcl
    · have h := h.2 c
      obtain ⟨P, h1, h2⟩ := h
      refine ⟨P, h1, fun b0 b1 b2 hp => ?_⟩
      have h := h2 b0 b1 b2 hp
      intro x e
      have h := h x e
      exact h _ hcl
def qX4_timesIn (post : Int32 → (Nat → Int32) → (Nat → Nat → Int32) → Prop) (p1 : Int32) (p2 : Int32) (I : Nat → Int32) (R : Nat → Nat → Int32) : Prop := qX4_timesIn_5 post p1 p2 (0 : Int32) (0 : Int32) I R
theorem mX4_timesIn_f74 : Cond.fieldLink RX4 74 "YearBookModel" "pictures" "I" ∈ wsX4_timesIn := by decide +kernel
theorem nX4_timesIn_X4 : ∀ w ∈ u_ws RX4 TX4 27, w ∈ wsX4_timesIn := by decide +kernel
set_option maxHeartbeats 4000000 in
set_option maxRecDepth 100000 in
theorem tX4_timesIn (l : Launch) (dC : Nat → ClassId) (dI : Nat → Nat → Nat) (cI : ClassId) (h : Nat) (ad : Nat → Nat)  (sz : Nat) (post : Int32 → (Nat → Int32) → (Nat → Nat → Int32) → Prop) (p1 : Int32) (p2 : Int32) (I : Nat → Int32) (R : Nat → Nat → Int32) (hq : qX4_timesIn post p1 p2 I R) : Met l yX4_timesIn wsX4_timesIn ({ frames := 4, cells := 0, slots := 0, locals := 97 } : Room) (va_Pc [.ref h, .int p1, .int p2] (wPre (dC, dI) vwCl [(cI, .int)] (wd4 cI h ad I R) sz)) (va_Qi (fun r (u : (Nat → Int32) × (Nat → Nat → Int32)) => post r u.1 u.2) (wAt (dC, dI) vwCl [(cI, .int)] (va_A (wd4 cI h ad I R) sz) (fun u : (Nat → Int32) × (Nat → Nat → Int32) => wd4 cI h ad u.1 u.2)) (va_A (wd4 cI h ad I R) sz)) 0 0 (va_A (wd4 cI h ad I R) sz) := by
  unfold qX4_timesIn at hq
  refine Met.ofW (cc := cX4_timesIn) (maxL := 5) (ret := (some .int)) (by decide) rfl ?_
  intro p e s m args below meth c s₁ B hml hv
  obtain ⟨rfl, hsz, hP, hK, hD0⟩ := hv
  have hx := B.exec
  have hb := B.bytes
  have hr := B.returns
  have hts := atoms_spec (ws := wsX4_timesIn) B.pre
  have hown : s.vm.findClass RX4 = some m.cls := findClass_of_methodNamed B.named
  have hlocks := B.notSynchronized
  subst hsz
  have hD := hD0.self (sz := s.heap.size)
  generalize hAe : va_A (wd4 cI h ad I R) s.heap.size = A at hD ⊢
  have hA : ∀ q : Nat, s.heap.size ≤ q → A q := fun q h => by rw [← hAe]; exact Or.inr h
  have hS : va_S A s.heap s.heap [] := va_S.rf
  have hZ : zX4_timesIn post p1 p2
      (fun (x3 : Int32) (x4 : Int32) (I : Nat → Int32) (R : Nat → Nat → Int32) => ∀ (H : Heap) (locs : List Loc) (ls : Array Slot), va_P (dC, dI) vwCl (wd4 cI h ad I R) H → va_D A (wd4 cI h ad I R) → va_S A s.heap H locs → lv_has ls 5 [(0, .ref h), (1, .int p1), (2, .int p2), (3, .int x3), (4, .int x4)] → W p l e (headSpec wsX4_timesIn ({ frames := 4, cells := 0, slots := 0, locals := 97 } : Room)).room s m ([.ref h, .int p1, .int p2] : List Value).toArray below meth c H locs 0 0 (MQ below (va_Qi (fun r (u : (Nat → Int32) × (Nat → Nat → Int32)) => post r u.1 u.2) (wAt (dC, dI) vwCl [(cI, .int)] A (fun u : (Nat → Int32) × (Nat → Nat → Int32) => wd4 cI h ad u.1 u.2)) A) ([.ref h, .int p1, .int p2] : List Value).toArray s 0 0 A) (F0 m 5 ls [])) := by
    unfold zX4_timesIn
    intro x3 x4 I R hq H locs ls hP hD hS hl
    refine lv_iload hx hb dX4_timesIn_5 (lv_at hl 4 rfl) ?_
    refine lv_aload_n hx hb dX4_timesIn_7 rfl (lv_at hl 0 rfl) ?_
    refine va_get (D := (dC, dI)) (ci := 4) (v := .int (I 11)) (C := RX4) (T := TX4) (N := 27) hx hb hts nX4_timesIn_X4 hown hK hP 0 rfl rfl 11 (by decide) (hts _ mX4_timesIn_f74) (fun _ h9 => h9) rfl dX4_timesIn_8 ?_
    refine lv_icmp_ge (tgt := 43) hx hb dX4_timesIn_11 (by decide) (fun hc => ?_) (fun hc => ?_)
    · have hq := hq.1 hc
      refine lv_iload_n hx hb dX4_timesIn_43 rfl (lv_at hl 3 rfl) ?_
      exact w_iret (post := fun r (u : (Nat → Int32) × (Nat → Nat → Int32)) => post r u.1 u.2) (wf := fun u : (Nat → Int32) × (Nat → Nat → Int32) => wd4 cI h ad u.1 u.2) (u := (I, R)) hx hb hr hK hP hD hS hq dX4_timesIn_44 hlocks
    · have hq := hq.2 hc
      refine lv_iload_n hx hb dX4_timesIn_14 rfl (lv_at hl 1 rfl) ?_
      refine lv_iload hx hb dX4_timesIn_15 (lv_at hl 4 rfl) ?_
      refine lv_ishr hx hb dX4_timesIn_17 ?_
      refine lv_iconst (v := (1 : Int32)) hx hb dX4_timesIn_18 (by decide) ?_
      refine lv_iand hx hb dX4_timesIn_19 ?_
      refine lv_iconst (v := (1 : Int32)) hx hb dX4_timesIn_20 (by decide) ?_
      refine lv_icmp_ne (tgt := 37) hx hb dX4_timesIn_21 (by decide) (fun hc => ?_) (fun hc => ?_)
      · have hq := hq.1 hc
        refine lv_iinc (v := x4 + (1 : Int32)) (lv' := [(4, .int (x4 + (1 : Int32))), (0, .ref h), (1, .int p1), (2, .int p2), (3, .int x3)]) hx hb dX4_timesIn_37 hl (k := 4) rfl rfl (by decide) rfl (fun ls hl => ?_)
        refine lv_goto (tgt := 5) hx hb dX4_timesIn_40 (by decide) ?_
        exact hq _ _ ls hP hD hS (lv_sub hl [1, 2, 3, 4, 0] rfl)
      · have hq := hq.2 hc
        refine lv_iload_n hx hb dX4_timesIn_24 rfl (lv_at hl 3 rfl) ?_
        refine lv_aload_n hx hb dX4_timesIn_25 rfl (lv_at hl 0 rfl) ?_
        refine lv_iload hx hb dX4_timesIn_26 (lv_at hl 4 rfl) ?_
        obtain ⟨Pc_1, hc, hq⟩ := hq
        refine w_calli (wf := fun u : (Nat → Int32) × (Nat → Nat → Int32) => wd4 cI h ad u.1 u.2) (va_runV (As := [.int x4]) (rest := [.int x3]) ⟨hx, hb, hml, hown, hts⟩ (tX4_seenIn l dC dI cI h ad _ Pc_1 x4 I R hc) (cwV 1 hts gX4_timesIn_X4_seenIn rfl rfl rfl (by decide +kernel) ⟨Nat.le_of_ble_eq_true rfl, Nat.le_of_ble_eq_true rfl⟩) (wPreV hK hP hD (ci := 4) (q0 := 0) rfl rfl) rfl rfl hl.1 rfl (lv_room (Nat.le_of_ble_eq_true rfl)) dX4_timesIn_28 ⟨Nat.le_of_ble_eq_true rfl, Nat.le_of_ble_eq_true rfl⟩) hD hS hA (fun rc_1 u H locs hp hP hD hS => ?_)
        obtain ⟨Ic_1, Rc_1⟩ := u
        have hq := hq rc_1 Ic_1 Rc_1 hp
        have hP : va_P (dC, dI) vwCl (wd4 cI h ad Ic_1 Rc_1) H := hP
        have hD : va_D A (wd4 cI h ad Ic_1 Rc_1) := hD
        refine lv_iload_n hx hb dX4_timesIn_31 rfl (lv_at hl 2 rfl) ?_
        refine lv_ishr hx hb dX4_timesIn_32 ?_
        refine lv_iconst (v := (1 : Int32)) hx hb dX4_timesIn_33 (by decide) ?_
        refine lv_iand hx hb dX4_timesIn_34 ?_
        refine lv_iadd hx hb dX4_timesIn_35 ?_
        refine lv_topi (fun x3_2 ex3_2 => ?_)
        have hq := hq x3_2 ex3_2
        refine lv_istore_n (lv' := [(3, .int x3_2), (0, .ref h), (1, .int p1), (2, .int p2), (4, .int x4)]) hx hb dX4_timesIn_36 rfl hl (by decide) rfl (fun ls hl => ?_)
        refine lv_iinc (v := x4 + (1 : Int32)) (lv' := [(4, .int (x4 + (1 : Int32))), (3, .int x3_2), (0, .ref h), (1, .int p1), (2, .int p2)]) hx hb dX4_timesIn_37 hl (k := 4) rfl rfl (by decide) rfl (fun ls hl => ?_)
        refine lv_goto (tgt := 5) hx hb dX4_timesIn_40 (by decide) ?_
        exact hq _ _ ls hP hD hS (lv_sub hl [2, 3, 4, 1, 0] rfl)
  have hl := lv_entry ([.ref h, .int p1, .int p2]) (n := 5) (Nat.le_of_ble_eq_true rfl)
  rw [lg_entry_eq]
  generalize (lg_sl ([.ref h, .int p1, .int p2]) ++ List.replicate (5 - (lg_sl ([.ref h, .int p1, .int p2])).length) Slot.unset).toArray = ls at hl ⊢
  have hl : lv_has ls 5 [(0, .ref h), (1, .int p1), (2, .int p2)] := hl
  refine lv_iconst (v := (0 : Int32)) hx hb dX4_timesIn_0 (by decide) ?_
  refine lv_istore_n (lv' := [(3, .int (0 : Int32)), (0, .ref h), (1, .int p1), (2, .int p2)]) hx hb dX4_timesIn_1 rfl hl (by decide) rfl (fun ls hl => ?_)
  refine lv_iconst (v := (0 : Int32)) hx hb dX4_timesIn_2 (by decide) ?_
  refine lv_istore (lv' := [(4, .int (0 : Int32)), (3, .int (0 : Int32)), (0, .ref h), (1, .int p1), (2, .int p2)]) hx hb dX4_timesIn_3 hl (by decide) rfl (fun ls hl => ?_)
  exact hq _ hZ _ _ ls hP hD hS (lv_sub hl [2, 3, 4, 1, 0] rfl)
def zX4_lacking (post : Int32 → (Nat → Int32) → (Nat → Nat → Int32) → Prop) (X7 : Int32 → (Nat → Int32) → (Nat → Nat → Int32) → Prop) : Prop :=
  (∀ (x1 : Int32) (I : Nat → Int32) (R : Nat → Nat → Int32), ((((I 2) ≤ x1) → (post (-1 : Int32) I R)) ∧ ((¬ (I 2) ≤ x1) → (∃ Pc_1 : Int32 → (Nat → Int32) → (Nat → Nat → Int32) → Prop, qX4_timesIn Pc_1 (((1 : Int32) <<< ((I 11) &&& 31)) - (1 : Int32)) x1 I R ∧ (∀ (rc_1 : Int32) (Ic_1 : Nat → Int32) (Rc_1 : Nat → Nat → Int32), Pc_1 rc_1 Ic_1 Rc_1 → ((((Ic_1 13) ≤ rc_1) → (X7 (x1 + (1 : Int32)) Ic_1 Rc_1)) ∧ ((¬ (Ic_1 13) ≤ rc_1) → (post x1 Ic_1 Rc_1))))))) → X7 x1 I R)
def qX4_lacking_7 (post : Int32 → (Nat → Int32) → (Nat → Nat → Int32) → Prop) (x1 : Int32) (I : Nat → Int32) (R : Nat → Nat → Int32) : Prop := ∀ (X7 : Int32 → (Nat → Int32) → (Nat → Nat → Int32) → Prop), zX4_lacking post X7 → X7 x1 I R
theorem kX4_lacking_7 {post : Int32 → (Nat → Int32) → (Nat → Nat → Int32) → Prop} {x1 : Int32} {I : Nat → Int32} {R : Nat → Nat → Int32} (h : (((I 2) ≤ x1) → (post (-1 : Int32) I R)) ∧ ((¬ (I 2) ≤ x1) → (∃ Pc_1 : Int32 → (Nat → Int32) → (Nat → Nat → Int32) → Prop, qX4_timesIn Pc_1 (((1 : Int32) <<< ((I 11) &&& 31)) - (1 : Int32)) x1 I R ∧ (∀ (rc_1 : Int32) (Ic_1 : Nat → Int32) (Rc_1 : Nat → Nat → Int32), Pc_1 rc_1 Ic_1 Rc_1 → ((((Ic_1 13) ≤ rc_1) → (qX4_lacking_7 post (x1 + (1 : Int32)) Ic_1 Rc_1)) ∧ ((¬ (Ic_1 13) ≤ rc_1) → (post x1 Ic_1 Rc_1))))))) : qX4_lacking_7 post x1 I R := by
  intro Z7 hcl
  refine hcl x1 I R ?_
  refine ⟨fun c => ?_, fun c => ?_⟩
  · have h := h.1 c
    exact h
  · have h := h.2 c
    obtain ⟨P, h1, h2⟩ := h
    refine ⟨P, h1, fun b0 b1 b2 hp => ?_⟩
    have h := h2 b0 b1 b2 hp
    refine ⟨fun c => ?_, fun c => ?_⟩
    · have h := h.1 c
      exact h _ hcl
    · have h := h.2 c
      exact h
def qX4_lacking (post : Int32 → (Nat → Int32) → (Nat → Nat → Int32) → Prop) (I : Nat → Int32) (R : Nat → Nat → Int32) : Prop := qX4_lacking_7 post (0 : Int32) (va_up I 19 (0 : Int32)) R
theorem mX4_lacking_f71 : Cond.fieldLink RX4 71 "YearBookModel" "thrown" "I" ∈ wsX4_lacking := by decide +kernel
theorem nX4_lacking_X4 : ∀ w ∈ u_ws RX4 TX4 27, w ∈ wsX4_lacking := by decide +kernel
theorem mX4_lacking_f81 : Cond.fieldLink RX4 81 "YearBookModel" "children" "I" ∈ wsX4_lacking := by decide +kernel
theorem mX4_lacking_f74 : Cond.fieldLink RX4 74 "YearBookModel" "pictures" "I" ∈ wsX4_lacking := by decide +kernel
theorem mX4_lacking_f91 : Cond.fieldLink RX4 91 "YearBookModel" "low" "I" ∈ wsX4_lacking := by decide +kernel
set_option maxHeartbeats 4000000 in
set_option maxRecDepth 100000 in
theorem tX4_lacking (l : Launch) (dC : Nat → ClassId) (dI : Nat → Nat → Nat) (cI : ClassId) (h : Nat) (ad : Nat → Nat)  (sz : Nat) (post : Int32 → (Nat → Int32) → (Nat → Nat → Int32) → Prop) (I : Nat → Int32) (R : Nat → Nat → Int32) (hq : qX4_lacking post I R) : Met l yX4_lacking wsX4_lacking ({ frames := 5, cells := 0, slots := 0, locals := 121 } : Room) (va_Pc [.ref h] (wPre (dC, dI) vwCl [(cI, .int)] (wd4 cI h ad I R) sz)) (va_Qi (fun r (u : (Nat → Int32) × (Nat → Nat → Int32)) => post r u.1 u.2) (wAt (dC, dI) vwCl [(cI, .int)] (va_A (wd4 cI h ad I R) sz) (fun u : (Nat → Int32) × (Nat → Nat → Int32) => wd4 cI h ad u.1 u.2)) (va_A (wd4 cI h ad I R) sz)) 0 0 (va_A (wd4 cI h ad I R) sz) := by
  unfold qX4_lacking at hq
  refine Met.ofW (cc := cX4_lacking) (maxL := 2) (ret := (some .int)) (by decide) rfl ?_
  intro p e s m args below meth c s₁ B hml hv
  obtain ⟨rfl, hsz, hP, hK, hD0⟩ := hv
  have hx := B.exec
  have hb := B.bytes
  have hr := B.returns
  have hts := atoms_spec (ws := wsX4_lacking) B.pre
  have hown : s.vm.findClass RX4 = some m.cls := findClass_of_methodNamed B.named
  have hlocks := B.notSynchronized
  subst hsz
  have hD := hD0.self (sz := s.heap.size)
  generalize hAe : va_A (wd4 cI h ad I R) s.heap.size = A at hD ⊢
  have hA : ∀ q : Nat, s.heap.size ≤ q → A q := fun q h => by rw [← hAe]; exact Or.inr h
  have hS : va_S A s.heap s.heap [] := va_S.rf
  have hZ : zX4_lacking post
      (fun (x1 : Int32) (I : Nat → Int32) (R : Nat → Nat → Int32) => ∀ (H : Heap) (locs : List Loc) (ls : Array Slot), va_P (dC, dI) vwCl (wd4 cI h ad I R) H → va_D A (wd4 cI h ad I R) → va_S A s.heap H locs → lv_has ls 2 [(0, .ref h), (1, .int x1)] → W p l e (headSpec wsX4_lacking ({ frames := 5, cells := 0, slots := 0, locals := 121 } : Room)).room s m ([.ref h] : List Value).toArray below meth c H locs 0 0 (MQ below (va_Qi (fun r (u : (Nat → Int32) × (Nat → Nat → Int32)) => post r u.1 u.2) (wAt (dC, dI) vwCl [(cI, .int)] A (fun u : (Nat → Int32) × (Nat → Nat → Int32) => wd4 cI h ad u.1 u.2)) A) ([.ref h] : List Value).toArray s 0 0 A) (F0 m 7 ls [])) := by
    unfold zX4_lacking
    intro x1 I R hq H locs ls hP hD hS hl
    refine lv_iload_n hx hb dX4_lacking_7 rfl (lv_at hl 1 rfl) ?_
    refine lv_aload_n hx hb dX4_lacking_8 rfl (lv_at hl 0 rfl) ?_
    refine va_get (D := (dC, dI)) (ci := 4) (v := .int (I 2)) (C := RX4) (T := TX4) (N := 27) hx hb hts nX4_lacking_X4 hown hK hP 0 rfl rfl 2 (by decide) (hts _ mX4_lacking_f81) (fun _ h9 => h9) rfl dX4_lacking_9 ?_
    refine lv_icmp_ge (tgt := 43) hx hb dX4_lacking_12 (by decide) (fun hc => ?_) (fun hc => ?_)
    · have hq := hq.1 hc
      refine lv_iconst (v := (-1 : Int32)) hx hb dX4_lacking_43 (by decide) ?_
      exact w_iret (post := fun r (u : (Nat → Int32) × (Nat → Nat → Int32)) => post r u.1 u.2) (wf := fun u : (Nat → Int32) × (Nat → Nat → Int32) => wd4 cI h ad u.1 u.2) (u := (I, R)) hx hb hr hK hP hD hS hq dX4_lacking_44 hlocks
    · have hq := hq.2 hc
      refine lv_aload_n hx hb dX4_lacking_15 rfl (lv_at hl 0 rfl) ?_
      refine lv_iconst (v := (1 : Int32)) hx hb dX4_lacking_16 (by decide) ?_
      refine lv_aload_n hx hb dX4_lacking_17 rfl (lv_at hl 0 rfl) ?_
      refine va_get (D := (dC, dI)) (ci := 4) (v := .int (I 11)) (C := RX4) (T := TX4) (N := 27) hx hb hts nX4_lacking_X4 hown hK hP 0 rfl rfl 11 (by decide) (hts _ mX4_lacking_f74) (fun _ h9 => h9) rfl dX4_lacking_18 ?_
      refine lv_ishl hx hb dX4_lacking_21 ?_
      refine lv_iconst (v := (1 : Int32)) hx hb dX4_lacking_22 (by decide) ?_
      refine lv_isub hx hb dX4_lacking_23 ?_
      refine lv_iload_n hx hb dX4_lacking_24 rfl (lv_at hl 1 rfl) ?_
      obtain ⟨Pc_1, hc, hq⟩ := hq
      refine w_calli (wf := fun u : (Nat → Int32) × (Nat → Nat → Int32) => wd4 cI h ad u.1 u.2) (va_runV (As := [.int (((1 : Int32) <<< ((I 11) &&& 31)) - (1 : Int32)), .int x1]) (rest := []) ⟨hx, hb, hml, hown, hts⟩ (tX4_timesIn l dC dI cI h ad _ Pc_1 (((1 : Int32) <<< ((I 11) &&& 31)) - (1 : Int32)) x1 I R hc) (cwV 2 hts gX4_lacking_X4_timesIn rfl rfl rfl (by decide +kernel) ⟨Nat.le_of_ble_eq_true rfl, Nat.le_of_ble_eq_true rfl⟩) (wPreV hK hP hD (ci := 4) (q0 := 0) rfl rfl) rfl rfl hl.1 rfl (lv_room (Nat.le_of_ble_eq_true rfl)) dX4_lacking_25 ⟨Nat.le_of_ble_eq_true rfl, Nat.le_of_ble_eq_true rfl⟩) hD hS hA (fun rc_1 u H locs hp hP hD hS => ?_)
      obtain ⟨Ic_1, Rc_1⟩ := u
      have hq := hq rc_1 Ic_1 Rc_1 hp
      have hP : va_P (dC, dI) vwCl (wd4 cI h ad Ic_1 Rc_1) H := hP
      have hD : va_D A (wd4 cI h ad Ic_1 Rc_1) := hD
      refine lv_aload_n hx hb dX4_lacking_28 rfl (lv_at hl 0 rfl) ?_
      refine va_get (D := (dC, dI)) (ci := 4) (v := .int (Ic_1 13)) (C := RX4) (T := TX4) (N := 27) hx hb hts nX4_lacking_X4 hown hK hP 0 rfl rfl 13 (by decide) (hts _ mX4_lacking_f91) (fun _ h9 => h9) rfl dX4_lacking_29 ?_
      refine lv_icmp_ge (tgt := 37) hx hb dX4_lacking_32 (by decide) (fun hc => ?_) (fun hc => ?_)
      · have hq := hq.1 hc
        refine lv_iinc (v := x1 + (1 : Int32)) (lv' := [(1, .int (x1 + (1 : Int32))), (0, .ref h)]) hx hb dX4_lacking_37 hl (k := 1) rfl rfl (by decide) rfl (fun ls hl => ?_)
        refine lv_goto (tgt := 7) hx hb dX4_lacking_40 (by decide) ?_
        exact hq _ _ ls hP hD hS (lv_sub hl [1, 0] rfl)
      · have hq := hq.2 hc
        refine lv_iload_n hx hb dX4_lacking_35 rfl (lv_at hl 1 rfl) ?_
        exact w_iret (post := fun r (u : (Nat → Int32) × (Nat → Nat → Int32)) => post r u.1 u.2) (wf := fun u : (Nat → Int32) × (Nat → Nat → Int32) => wd4 cI h ad u.1 u.2) (u := (Ic_1, Rc_1)) hx hb hr hK hP hD hS hq dX4_lacking_36 hlocks
  have hl := lv_entry ([.ref h]) (n := 2) (Nat.le_of_ble_eq_true rfl)
  rw [lg_entry_eq]
  generalize (lg_sl ([.ref h]) ++ List.replicate (2 - (lg_sl ([.ref h])).length) Slot.unset).toArray = ls at hl ⊢
  have hl : lv_has ls 2 [(0, .ref h)] := hl
  refine lv_aload_n hx hb dX4_lacking_0 rfl (lv_at hl 0 rfl) ?_
  refine lv_iconst (v := (0 : Int32)) hx hb dX4_lacking_1 (by decide) ?_
  refine va_put (D := (dC, dI)) (ci := 4) (v := .int (0 : Int32)) (ty := .int) (C := RX4) (T := TX4) (N := 27) hx hb hts nX4_lacking_X4 tyX4 tyX4_ok nmX4 hown hK hP hD hS 0 rfl rfl 19 (by decide) (hts _ mX4_lacking_f71) (fun _ h9 => h9) rfl (by decide +kernel) rfl rfl (Nat.le_of_ble_eq_true rfl) dX4_lacking_2 (fun H locs hP hD hS => ?_)
  rw [wd4_I19] at hP hD
  refine lv_iconst (v := (0 : Int32)) hx hb dX4_lacking_5 (by decide) ?_
  refine lv_istore_n (lv' := [(1, .int (0 : Int32)), (0, .ref h)]) hx hb dX4_lacking_6 rfl hl (by decide) rfl (fun ls hl => ?_)
  exact hq _ hZ _ _ ls hP hD hS (lv_sub hl [1, 0] rfl)
def zX4_on (post : Int32 → Prop) (p1 : Int32) (I : Nat → Int32) (R : Nat → Nat → Int32) (X4 : Int32 → Int32 → Prop) : Prop :=
  (∀ (x2 : Int32) (x3 : Int32), ((((I 18) ≤ x3) → (post x2)) ∧ ((¬ (I 18) ≤ x3) → (((¬ ((p1 >>> (x3 &&& 31)) &&& (1 : Int32)) = (1 : Int32)) → (X4 x2 (x3 + (1 : Int32)))) ∧ ((((p1 >>> (x3 &&& 31)) &&& (1 : Int32)) = (1 : Int32)) → (vp_in x3 14 ∧ (∀ x2_2 : Int32, x2_2 = x2 ||| (R 17 x3.toNatClampNeg) → (X4 x2_2 (x3 + (1 : Int32))))))))) → X4 x2 x3)
def qX4_on_4 (post : Int32 → Prop) (p1 : Int32) (I : Nat → Int32) (R : Nat → Nat → Int32) (x2 : Int32) (x3 : Int32) : Prop := ∀ (X4 : Int32 → Int32 → Prop), zX4_on post p1 I R X4 → X4 x2 x3
theorem kX4_on_4 {post : Int32 → Prop} {p1 : Int32} {I : Nat → Int32} {R : Nat → Nat → Int32} {x2 : Int32} {x3 : Int32} (h : (((I 18) ≤ x3) → (post x2)) ∧ ((¬ (I 18) ≤ x3) → (((¬ ((p1 >>> (x3 &&& 31)) &&& (1 : Int32)) = (1 : Int32)) → (qX4_on_4 post p1 I R x2 (x3 + (1 : Int32)))) ∧ ((((p1 >>> (x3 &&& 31)) &&& (1 : Int32)) = (1 : Int32)) → (vp_in x3 14 ∧ (∀ x2_2 : Int32, x2_2 = x2 ||| (R 17 x3.toNatClampNeg) → (qX4_on_4 post p1 I R x2_2 (x3 + (1 : Int32))))))))) : qX4_on_4 post p1 I R x2 x3 := by
  intro Z4 hcl
  refine hcl x2 x3 ?_
  refine ⟨fun c => ?_, fun c => ?_⟩
  · have h := h.1 c
    exact h
  · have h := h.2 c
    refine ⟨fun c => ?_, fun c => ?_⟩
    · have h := h.1 c
      exact h _ hcl
    · have h := h.2 c
      refine ⟨h.1, ?_⟩
      have h := h.2
      intro x e
      have h := h x e
      exact h _ hcl
def qX4_on (post : Int32 → Prop) (p1 : Int32) (I : Nat → Int32) (R : Nat → Nat → Int32) : Prop := qX4_on_4 post p1 I R (0 : Int32) (0 : Int32)
theorem mX4_on_f114 : Cond.fieldLink RX4 114 "YearBookModel" "pageMany" "I" ∈ wsX4_on := by decide +kernel
theorem nX4_on_X4 : ∀ w ∈ u_ws RX4 TX4 27, w ∈ wsX4_on := by decide +kernel
theorem mX4_on_f50 : Cond.fieldLink RX4 50 "YearBookModel" "pages" "[I" ∈ wsX4_on := by decide +kernel
set_option maxHeartbeats 4000000 in
set_option maxRecDepth 100000 in
theorem tX4_on (l : Launch) (dC : Nat → ClassId) (dI : Nat → Nat → Nat) (cI : ClassId) (h : Nat) (ad : Nat → Nat)  (sz : Nat) (post : Int32 → Prop) (p1 : Int32) (I : Nat → Int32) (R : Nat → Nat → Int32) (hq : qX4_on post p1 I R) : Met l yX4_on wsX4_on ({ frames := 0, cells := 0, slots := 0, locals := 0 } : Room) (va_Pc [.ref h, .int p1] (wPre (dC, dI) vwCl [(cI, .int)] (wd4 cI h ad I R) sz)) (va_Qi (fun r (_ : Unit) => post r ) (wAt (dC, dI) vwCl [(cI, .int)] (va_A (wd4 cI h ad I R) sz) (fun _ : Unit => wd4 cI h ad I R)) (va_A (wd4 cI h ad I R) sz)) 0 0 (va_A (wd4 cI h ad I R) sz) := by
  unfold qX4_on at hq
  refine Met.ofW (cc := cX4_on) (maxL := 4) (ret := (some .int)) (by decide) rfl ?_
  intro p e s m args below meth c s₁ B hml hv
  obtain ⟨rfl, hsz, hP, hK, hD0⟩ := hv
  have hx := B.exec
  have hb := B.bytes
  have hr := B.returns
  have hts := atoms_spec (ws := wsX4_on) B.pre
  have hown : s.vm.findClass RX4 = some m.cls := findClass_of_methodNamed B.named
  have hlocks := B.notSynchronized
  subst hsz
  have hD := hD0.self (sz := s.heap.size)
  generalize hAe : va_A (wd4 cI h ad I R) s.heap.size = A at hD ⊢
  have hA : ∀ q : Nat, s.heap.size ≤ q → A q := fun q h => by rw [← hAe]; exact Or.inr h
  have hS : va_S A s.heap s.heap [] := va_S.rf
  have hZ : zX4_on post p1 I R
      (fun (x2 : Int32) (x3 : Int32) => ∀ (H : Heap) (locs : List Loc) (ls : Array Slot), va_P (dC, dI) vwCl (wd4 cI h ad I R) H → va_D A (wd4 cI h ad I R) → va_S A s.heap H locs → lv_has ls 4 [(0, .ref h), (1, .int p1), (2, .int x2), (3, .int x3)] → W p l e (headSpec wsX4_on ({ frames := 0, cells := 0, slots := 0, locals := 0 } : Room)).room s m ([.ref h, .int p1] : List Value).toArray below meth c H locs 0 0 (MQ below (va_Qi (fun r (_ : Unit) => post r ) (wAt (dC, dI) vwCl [(cI, .int)] A (fun _ : Unit => wd4 cI h ad I R)) A) ([.ref h, .int p1] : List Value).toArray s 0 0 A) (F0 m 4 ls [])) := by
    unfold zX4_on
    intro x2 x3 hq H locs ls hP hD hS hl
    refine lv_iload_n hx hb dX4_on_4 rfl (lv_at hl 3 rfl) ?_
    refine lv_aload_n hx hb dX4_on_5 rfl (lv_at hl 0 rfl) ?_
    refine va_get (D := (dC, dI)) (ci := 4) (v := .int (I 18)) (C := RX4) (T := TX4) (N := 27) hx hb hts nX4_on_X4 hown hK hP 0 rfl rfl 18 (by decide) (hts _ mX4_on_f114) (fun _ h9 => h9) rfl dX4_on_6 ?_
    refine lv_icmp_ge (tgt := 36) hx hb dX4_on_9 (by decide) (fun hc => ?_) (fun hc => ?_)
    · have hq := hq.1 hc
      refine lv_iload_n hx hb dX4_on_36 rfl (lv_at hl 2 rfl) ?_
      exact w_iret (post := fun r (_ : Unit) => post r ) (wf := fun _ : Unit => wd4 cI h ad I R) (u := ()) hx hb hr hK hP hD hS hq dX4_on_37 hlocks
    · have hq := hq.2 hc
      refine lv_iload_n hx hb dX4_on_12 rfl (lv_at hl 1 rfl) ?_
      refine lv_iload_n hx hb dX4_on_13 rfl (lv_at hl 3 rfl) ?_
      refine lv_ishr hx hb dX4_on_14 ?_
      refine lv_iconst (v := (1 : Int32)) hx hb dX4_on_15 (by decide) ?_
      refine lv_iand hx hb dX4_on_16 ?_
      refine lv_iconst (v := (1 : Int32)) hx hb dX4_on_17 (by decide) ?_
      refine lv_icmp_ne (tgt := 30) hx hb dX4_on_18 (by decide) (fun hc => ?_) (fun hc => ?_)
      · have hq := hq.1 hc
        refine lv_iinc (v := x3 + (1 : Int32)) (lv' := [(3, .int (x3 + (1 : Int32))), (0, .ref h), (1, .int p1), (2, .int x2)]) hx hb dX4_on_30 hl (k := 3) rfl rfl (by decide) rfl (fun ls hl => ?_)
        refine lv_goto (tgt := 4) hx hb dX4_on_33 (by decide) ?_
        exact hq _ _ ls hP hD hS (lv_sub hl [1, 2, 3, 0] rfl)
      · have hq := hq.2 hc
        refine lv_iload_n hx hb dX4_on_21 rfl (lv_at hl 2 rfl) ?_
        refine lv_aload_n hx hb dX4_on_22 rfl (lv_at hl 0 rfl) ?_
        refine va_get (D := (dC, dI)) (ci := 4) (v := .ref (ad 17)) (C := RX4) (T := TX4) (N := 27) hx hb hts nX4_on_X4 hown hK hP 0 rfl rfl 17 (by decide) (hts _ mX4_on_f50) (fun _ h9 => h9) rfl dX4_on_23 ?_
        refine lv_iload_n hx hb dX4_on_26 rfl (lv_at hl 3 rfl) ?_
        obtain ⟨hi_1, hq⟩ := hq
        refine va_iald (f := R 17) hx hb hK hP 11 0 rfl rfl hi_1 dX4_on_27 ?_
        refine lv_ior hx hb dX4_on_28 ?_
        refine lv_topi (fun x2_2 ex2_2 => ?_)
        have hq := hq x2_2 ex2_2
        refine lv_istore_n (lv' := [(2, .int x2_2), (0, .ref h), (1, .int p1), (3, .int x3)]) hx hb dX4_on_29 rfl hl (by decide) rfl (fun ls hl => ?_)
        refine lv_iinc (v := x3 + (1 : Int32)) (lv' := [(3, .int (x3 + (1 : Int32))), (2, .int x2_2), (0, .ref h), (1, .int p1)]) hx hb dX4_on_30 hl (k := 3) rfl rfl (by decide) rfl (fun ls hl => ?_)
        refine lv_goto (tgt := 4) hx hb dX4_on_33 (by decide) ?_
        exact hq _ _ ls hP hD hS (lv_sub hl [2, 3, 1, 0] rfl)
  have hl := lv_entry ([.ref h, .int p1]) (n := 4) (Nat.le_of_ble_eq_true rfl)
  rw [lg_entry_eq]
  generalize (lg_sl ([.ref h, .int p1]) ++ List.replicate (4 - (lg_sl ([.ref h, .int p1])).length) Slot.unset).toArray = ls at hl ⊢
  have hl : lv_has ls 4 [(0, .ref h), (1, .int p1)] := hl
  refine lv_iconst (v := (0 : Int32)) hx hb dX4_on_0 (by decide) ?_
  refine lv_istore_n (lv' := [(2, .int (0 : Int32)), (0, .ref h), (1, .int p1)]) hx hb dX4_on_1 rfl hl (by decide) rfl (fun ls hl => ?_)
  refine lv_iconst (v := (0 : Int32)) hx hb dX4_on_2 (by decide) ?_
  refine lv_istore_n (lv' := [(3, .int (0 : Int32)), (2, .int (0 : Int32)), (0, .ref h), (1, .int p1)]) hx hb dX4_on_3 rfl hl (by decide) rfl (fun ls hl => ?_)
  exact hq _ hZ _ _ ls hP hD hS (lv_sub hl [2, 3, 1, 0] rfl)
def zX4_layAll (post : Int32 → (Nat → Int32) → (Nat → Nat → Int32) → Prop) (p1 : Int32) (X9 : Int32 → Int32 → (Nat → Int32) → (Nat → Nat → Int32) → Prop) (X32 : Int32 → Int32 → Int32 → Int32 → Int32 → Int32 → (Nat → Int32) → (Nat → Nat → Int32) → Prop) (X76 : Int32 → Int32 → Int32 → Int32 → Int32 → Int32 → Int32 → Int32 → (Nat → Int32) → (Nat → Nat → Int32) → Prop) (X134 : Int32 → Int32 → Int32 → Int32 → Int32 → Int32 → (Nat → Int32) → (Nat → Nat → Int32) → Prop) : Prop :=
  (∀ (x2 : Int32) (x3 : Int32) (I : Nat → Int32) (R : Nat → Nat → Int32), (((x2 = 0) → (post x3 I R)) ∧ ((¬ x2 = 0) → (∀ x4_2 : Int32, x4_2 = x2 &&& (-x2) → (∀ x5_3 : Int32, x5_3 = x2 ^^^ x4_2 → (X32 x2 x3 x4_2 x5_3 (-1 : Int32) x5_3 I R))))) → X9 x2 x3 I R) ∧
  (∀ (x2 : Int32) (x3 : Int32) (x4 : Int32) (x5 : Int32) (x6 : Int32) (x7 : Int32) (I : Nat → Int32) (R : Nat → Nat → Int32), (∀ x8_4 : Int32, x8_4 = x7 ||| x4 → (vp_in x8_4 16384 ∧ ((((12 : Int32) < (R 24 x8_4.toNatClampNeg)) → (X76 x2 x3 x4 x5 x6 x7 x8_4 (0 : Int32) I R)) ∧ ((¬ (12 : Int32) < (R 24 x8_4.toNatClampNeg)) → (vp_in (x2 ^^^ x8_4) 16384 ∧ (vp_in x2 16384 ∧ (((¬ (R 25 (x2 ^^^ x8_4).toNatClampNeg) = ((R 25 x2.toNatClampNeg) - (1 : Int32))) → (X76 x2 x3 x4 x5 x6 x7 x8_4 (0 : Int32) I R)) ∧ (((R 25 (x2 ^^^ x8_4).toNatClampNeg) = ((R 25 x2.toNatClampNeg) - (1 : Int32))) → (X76 x2 x3 x4 x5 x6 x7 x8_4 (1 : Int32) I R))))))))) → X32 x2 x3 x4 x5 x6 x7 I R) ∧
  (∀ (x2 : Int32) (x3 : Int32) (x4 : Int32) (x5 : Int32) (x6 : Int32) (x7 : Int32) (x8 : Int32) (k0 : Int32) (I : Nat → Int32) (R : Nat → Nat → Int32), (((k0 = 0) → (X134 x2 x3 x4 x5 x6 x7 I R)) ∧ ((¬ k0 = 0) → (((x6 = (-1 : Int32)) → (X134 x2 x3 x4 x5 x8 x7 I R)) ∧ ((¬ x6 = (-1 : Int32)) → (vp_in x8 16384 ∧ (vp_in x6 16384 ∧ ((((R 24 x6.toNatClampNeg) < (R 24 x8.toNatClampNeg)) → (X134 x2 x3 x4 x5 x8 x7 I R)) ∧ ((¬ (R 24 x6.toNatClampNeg) < (R 24 x8.toNatClampNeg)) → (((¬ (R 24 x8.toNatClampNeg) = (R 24 x6.toNatClampNeg)) → (X134 x2 x3 x4 x5 x6 x7 I R)) ∧ (((R 24 x8.toNatClampNeg) = (R 24 x6.toNatClampNeg)) → (((x6 ≤ x8) → (X134 x2 x3 x4 x5 x6 x7 I R)) ∧ ((¬ x6 ≤ x8) → (X134 x2 x3 x4 x5 x8 x7 I R))))))))))))) → X76 x2 x3 x4 x5 x6 x7 x8 k0 I R) ∧
  (∀ (x2 : Int32) (x3 : Int32) (x4 : Int32) (x5 : Int32) (x6 : Int32) (x7 : Int32) (I : Nat → Int32) (R : Nat → Nat → Int32), (((¬ x7 = 0) → (∀ x7_10 : Int32, x7_10 = (x7 - (1 : Int32)) &&& x5 → (X32 x2 x3 x4 x5 x6 x7_10 I R))) ∧ ((x7 = 0) → (vp_in x3 14 ∧ (∀ x2_12 : Int32, x2_12 = x2 ^^^ x6 → (X9 x2_12 (x3 + (1 : Int32)) I (va_up R 26 (upd (R 26) x3.toNatClampNeg x6))))))) → X134 x2 x3 x4 x5 x6 x7 I R)
def qX4_layAll_9 (post : Int32 → (Nat → Int32) → (Nat → Nat → Int32) → Prop) (p1 : Int32) (x2 : Int32) (x3 : Int32) (I : Nat → Int32) (R : Nat → Nat → Int32) : Prop := ∀ (X9 : Int32 → Int32 → (Nat → Int32) → (Nat → Nat → Int32) → Prop) (X32 : Int32 → Int32 → Int32 → Int32 → Int32 → Int32 → (Nat → Int32) → (Nat → Nat → Int32) → Prop) (X76 : Int32 → Int32 → Int32 → Int32 → Int32 → Int32 → Int32 → Int32 → (Nat → Int32) → (Nat → Nat → Int32) → Prop) (X134 : Int32 → Int32 → Int32 → Int32 → Int32 → Int32 → (Nat → Int32) → (Nat → Nat → Int32) → Prop), zX4_layAll post p1 X9 X32 X76 X134 → X9 x2 x3 I R
def qX4_layAll_32 (post : Int32 → (Nat → Int32) → (Nat → Nat → Int32) → Prop) (p1 : Int32) (x2 : Int32) (x3 : Int32) (x4 : Int32) (x5 : Int32) (x6 : Int32) (x7 : Int32) (I : Nat → Int32) (R : Nat → Nat → Int32) : Prop := ∀ (X9 : Int32 → Int32 → (Nat → Int32) → (Nat → Nat → Int32) → Prop) (X32 : Int32 → Int32 → Int32 → Int32 → Int32 → Int32 → (Nat → Int32) → (Nat → Nat → Int32) → Prop) (X76 : Int32 → Int32 → Int32 → Int32 → Int32 → Int32 → Int32 → Int32 → (Nat → Int32) → (Nat → Nat → Int32) → Prop) (X134 : Int32 → Int32 → Int32 → Int32 → Int32 → Int32 → (Nat → Int32) → (Nat → Nat → Int32) → Prop), zX4_layAll post p1 X9 X32 X76 X134 → X32 x2 x3 x4 x5 x6 x7 I R
def qX4_layAll_76 (post : Int32 → (Nat → Int32) → (Nat → Nat → Int32) → Prop) (p1 : Int32) (x2 : Int32) (x3 : Int32) (x4 : Int32) (x5 : Int32) (x6 : Int32) (x7 : Int32) (x8 : Int32) (k0 : Int32) (I : Nat → Int32) (R : Nat → Nat → Int32) : Prop := ∀ (X9 : Int32 → Int32 → (Nat → Int32) → (Nat → Nat → Int32) → Prop) (X32 : Int32 → Int32 → Int32 → Int32 → Int32 → Int32 → (Nat → Int32) → (Nat → Nat → Int32) → Prop) (X76 : Int32 → Int32 → Int32 → Int32 → Int32 → Int32 → Int32 → Int32 → (Nat → Int32) → (Nat → Nat → Int32) → Prop) (X134 : Int32 → Int32 → Int32 → Int32 → Int32 → Int32 → (Nat → Int32) → (Nat → Nat → Int32) → Prop), zX4_layAll post p1 X9 X32 X76 X134 → X76 x2 x3 x4 x5 x6 x7 x8 k0 I R
def qX4_layAll_134 (post : Int32 → (Nat → Int32) → (Nat → Nat → Int32) → Prop) (p1 : Int32) (x2 : Int32) (x3 : Int32) (x4 : Int32) (x5 : Int32) (x6 : Int32) (x7 : Int32) (I : Nat → Int32) (R : Nat → Nat → Int32) : Prop := ∀ (X9 : Int32 → Int32 → (Nat → Int32) → (Nat → Nat → Int32) → Prop) (X32 : Int32 → Int32 → Int32 → Int32 → Int32 → Int32 → (Nat → Int32) → (Nat → Nat → Int32) → Prop) (X76 : Int32 → Int32 → Int32 → Int32 → Int32 → Int32 → Int32 → Int32 → (Nat → Int32) → (Nat → Nat → Int32) → Prop) (X134 : Int32 → Int32 → Int32 → Int32 → Int32 → Int32 → (Nat → Int32) → (Nat → Nat → Int32) → Prop), zX4_layAll post p1 X9 X32 X76 X134 → X134 x2 x3 x4 x5 x6 x7 I R
theorem kX4_layAll_9 {post : Int32 → (Nat → Int32) → (Nat → Nat → Int32) → Prop} {p1 : Int32} {x2 : Int32} {x3 : Int32} {I : Nat → Int32} {R : Nat → Nat → Int32} (h : ((x2 = 0) → (post x3 I R)) ∧ ((¬ x2 = 0) → (∀ x4_2 : Int32, x4_2 = x2 &&& (-x2) → (∀ x5_3 : Int32, x5_3 = x2 ^^^ x4_2 → (qX4_layAll_32 post p1 x2 x3 x4_2 x5_3 (-1 : Int32) x5_3 I R))))) : qX4_layAll_9 post p1 x2 x3 I R := by
  intro Z9 Z32 Z76 Z134 hcl
  refine hcl.1 x2 x3 I R ?_
  refine ⟨fun c => ?_, fun c => ?_⟩
  · have h := h.1 c
    exact h
  · have h := h.2 c
    intro x e
    have h := h x e
    intro x e
    have h := h x e
    exact h _ _ _ _ hcl
theorem kX4_layAll_32 {post : Int32 → (Nat → Int32) → (Nat → Nat → Int32) → Prop} {p1 : Int32} {x2 : Int32} {x3 : Int32} {x4 : Int32} {x5 : Int32} {x6 : Int32} {x7 : Int32} {I : Nat → Int32} {R : Nat → Nat → Int32} (h : ∀ x8_4 : Int32, x8_4 = x7 ||| x4 → (vp_in x8_4 16384 ∧ ((((12 : Int32) < (R 24 x8_4.toNatClampNeg)) → (qX4_layAll_76 post p1 x2 x3 x4 x5 x6 x7 x8_4 (0 : Int32) I R)) ∧ ((¬ (12 : Int32) < (R 24 x8_4.toNatClampNeg)) → (vp_in (x2 ^^^ x8_4) 16384 ∧ (vp_in x2 16384 ∧ (((¬ (R 25 (x2 ^^^ x8_4).toNatClampNeg) = ((R 25 x2.toNatClampNeg) - (1 : Int32))) → (qX4_layAll_76 post p1 x2 x3 x4 x5 x6 x7 x8_4 (0 : Int32) I R)) ∧ (((R 25 (x2 ^^^ x8_4).toNatClampNeg) = ((R 25 x2.toNatClampNeg) - (1 : Int32))) → (qX4_layAll_76 post p1 x2 x3 x4 x5 x6 x7 x8_4 (1 : Int32) I R))))))))) : qX4_layAll_32 post p1 x2 x3 x4 x5 x6 x7 I R := by
  intro Z9 Z32 Z76 Z134 hcl
  refine hcl.2.1 x2 x3 x4 x5 x6 x7 I R ?_
  intro x e
  have h := h x e
  refine ⟨h.1, ?_⟩
  have h := h.2
  refine ⟨fun c => ?_, fun c => ?_⟩
  · have h := h.1 c
    exact h _ _ _ _ hcl
  · have h := h.2 c
    refine ⟨h.1, ?_⟩
    have h := h.2
    refine ⟨h.1, ?_⟩
    have h := h.2
    refine ⟨fun c => ?_, fun c => ?_⟩
    · have h := h.1 c
      exact h _ _ _ _ hcl
    · have h := h.2 c
      exact h _ _ _ _ hcl
theorem kX4_layAll_76 {post : Int32 → (Nat → Int32) → (Nat → Nat → Int32) → Prop} {p1 : Int32} {x2 : Int32} {x3 : Int32} {x4 : Int32} {x5 : Int32} {x6 : Int32} {x7 : Int32} {x8 : Int32} {k0 : Int32} {I : Nat → Int32} {R : Nat → Nat → Int32} (h : ((k0 = 0) → (qX4_layAll_134 post p1 x2 x3 x4 x5 x6 x7 I R)) ∧ ((¬ k0 = 0) → (((x6 = (-1 : Int32)) → (qX4_layAll_134 post p1 x2 x3 x4 x5 x8 x7 I R)) ∧ ((¬ x6 = (-1 : Int32)) → (vp_in x8 16384 ∧ (vp_in x6 16384 ∧ ((((R 24 x6.toNatClampNeg) < (R 24 x8.toNatClampNeg)) → (qX4_layAll_134 post p1 x2 x3 x4 x5 x8 x7 I R)) ∧ ((¬ (R 24 x6.toNatClampNeg) < (R 24 x8.toNatClampNeg)) → (((¬ (R 24 x8.toNatClampNeg) = (R 24 x6.toNatClampNeg)) → (qX4_layAll_134 post p1 x2 x3 x4 x5 x6 x7 I R)) ∧ (((R 24 x8.toNatClampNeg) = (R 24 x6.toNatClampNeg)) → (((x6 ≤ x8) → (qX4_layAll_134 post p1 x2 x3 x4 x5 x6 x7 I R)) ∧ ((¬ x6 ≤ x8) → (qX4_layAll_134 post p1 x2 x3 x4 x5 x8 x7 I R))))))))))))) : qX4_layAll_76 post p1 x2 x3 x4 x5 x6 x7 x8 k0 I R := by
  intro Z9 Z32 Z76 Z134 hcl
  refine hcl.2.2.1 x2 x3 x4 x5 x6 x7 x8 k0 I R ?_
  refine ⟨fun c => ?_, fun c => ?_⟩
  · have h := h.1 c
    exact h _ _ _ _ hcl
  · have h := h.2 c
    refine ⟨fun c => ?_, fun c => ?_⟩
    · have h := h.1 c
      exact h _ _ _ _ hcl
    · have h := h.2 c
      refine ⟨h.1, ?_⟩
      have h := h.2
      refine ⟨h.1, ?_⟩
      have h := h.2
      refine ⟨fun c => ?_, fun c => ?_⟩
      · have h := h.1 c
        exact h _ _ _ _ hcl
      · have h := h.2 c
        refine ⟨fun c => ?_, fun c => ?_⟩
        · have h := h.1 c
          exact h _ _ _ _ hcl
        · have h := h.2 c
          refine ⟨fun c => ?_, fun c => ?_⟩
          · have h := h.1 c
            exact h _ _ _ _ hcl
          · have h := h.2 c
            exact h _ _ _ _ hcl
theorem kX4_layAll_134 {post : Int32 → (Nat → Int32) → (Nat → Nat → Int32) → Prop} {p1 : Int32} {x2 : Int32} {x3 : Int32} {x4 : Int32} {x5 : Int32} {x6 : Int32} {x7 : Int32} {I : Nat → Int32} {R : Nat → Nat → Int32} (h : ((¬ x7 = 0) → (∀ x7_10 : Int32, x7_10 = (x7 - (1 : Int32)) &&& x5 → (qX4_layAll_32 post p1 x2 x3 x4 x5 x6 x7_10 I R))) ∧ ((x7 = 0) → (vp_in x3 14 ∧ (∀ x2_12 : Int32, x2_12 = x2 ^^^ x6 → (qX4_layAll_9 post p1 x2_12 (x3 + (1 : Int32)) I (va_up R 26 (upd (R 26) x3.toNatClampNeg x6))))))) : qX4_layAll_134 post p1 x2 x3 x4 x5 x6 x7 I R := by
  intro Z9 Z32 Z76 Z134 hcl
  refine hcl.2.2.2 x2 x3 x4 x5 x6 x7 I R ?_
  refine ⟨fun c => ?_, fun c => ?_⟩
  · have h := h.1 c
    intro x e
    have h := h x e
    exact h _ _ _ _ hcl
  · have h := h.2 c
    refine ⟨h.1, ?_⟩
    have h := h.2
    intro x e
    have h := h x e
    exact h _ _ _ _ hcl
def qX4_layAll (post : Int32 → (Nat → Int32) → (Nat → Nat → Int32) → Prop) (p1 : Int32) (I : Nat → Int32) (R : Nat → Nat → Int32) : Prop := ∃ Pc_1 : (Nat → Int32) → (Nat → Nat → Int32) → Prop, qX4_pack Pc_1 p1 I R ∧ (∀ (Ic_1 : Nat → Int32) (Rc_1 : Nat → Nat → Int32), Pc_1 Ic_1 Rc_1 → (qX4_layAll_9 post p1 p1 (0 : Int32) Ic_1 Rc_1))
theorem mX4_layAll_f62 : Cond.fieldLink RX4 62 "YearBookModel" "points" "[I" ∈ wsX4_layAll := by decide +kernel
theorem nX4_layAll_X4 : ∀ w ∈ u_ws RX4 TX4 27, w ∈ wsX4_layAll := by decide +kernel
theorem mX4_layAll_f65 : Cond.fieldLink RX4 65 "YearBookModel" "least" "[I" ∈ wsX4_layAll := by decide +kernel
theorem mX4_layAll_f68 : Cond.fieldLink RX4 68 "YearBookModel" "laid" "[I" ∈ wsX4_layAll := by decide +kernel
set_option maxHeartbeats 4000000 in
set_option maxRecDepth 100000 in
theorem tX4_layAll (l : Launch) (dC : Nat → ClassId) (dI : Nat → Nat → Nat) (cI : ClassId) (h : Nat) (ad : Nat → Nat)  (sz : Nat) (post : Int32 → (Nat → Int32) → (Nat → Nat → Int32) → Prop) (p1 : Int32) (I : Nat → Int32) (R : Nat → Nat → Int32) (hq : qX4_layAll post p1 I R) : Met l yX4_layAll wsX4_layAll ({ frames := 2, cells := 0, slots := 0, locals := 55 } : Room) (va_Pc [.ref h, .int p1] (wPre (dC, dI) vwCl [(cI, .int)] (wd4 cI h ad I R) sz)) (va_Qi (fun r (u : (Nat → Int32) × (Nat → Nat → Int32)) => post r u.1 u.2) (wAt (dC, dI) vwCl [(cI, .int)] (va_A (wd4 cI h ad I R) sz) (fun u : (Nat → Int32) × (Nat → Nat → Int32) => wd4 cI h ad u.1 u.2)) (va_A (wd4 cI h ad I R) sz)) 0 0 (va_A (wd4 cI h ad I R) sz) := by
  unfold qX4_layAll at hq
  refine Met.ofW (cc := cX4_layAll) (maxL := 10) (ret := (some .int)) (by decide) rfl ?_
  intro p e s m args below meth c s₁ B hml hv
  obtain ⟨rfl, hsz, hP, hK, hD0⟩ := hv
  have hx := B.exec
  have hb := B.bytes
  have hr := B.returns
  have hts := atoms_spec (ws := wsX4_layAll) B.pre
  have hown : s.vm.findClass RX4 = some m.cls := findClass_of_methodNamed B.named
  have hlocks := B.notSynchronized
  subst hsz
  have hD := hD0.self (sz := s.heap.size)
  generalize hAe : va_A (wd4 cI h ad I R) s.heap.size = A at hD ⊢
  have hA : ∀ q : Nat, s.heap.size ≤ q → A q := fun q h => by rw [← hAe]; exact Or.inr h
  have hS : va_S A s.heap s.heap [] := va_S.rf
  have hZ : zX4_layAll post p1
      (fun (x2 : Int32) (x3 : Int32) (I : Nat → Int32) (R : Nat → Nat → Int32) => ∀ (H : Heap) (locs : List Loc) (ls : Array Slot), va_P (dC, dI) vwCl (wd4 cI h ad I R) H → va_D A (wd4 cI h ad I R) → va_S A s.heap H locs → lv_has ls 10 [(0, .ref h), (2, .int x2), (3, .int x3)] → W p l e (headSpec wsX4_layAll ({ frames := 2, cells := 0, slots := 0, locals := 55 } : Room)).room s m ([.ref h, .int p1] : List Value).toArray below meth c H locs 0 0 (MQ below (va_Qi (fun r (u : (Nat → Int32) × (Nat → Nat → Int32)) => post r u.1 u.2) (wAt (dC, dI) vwCl [(cI, .int)] A (fun u : (Nat → Int32) × (Nat → Nat → Int32) => wd4 cI h ad u.1 u.2)) A) ([.ref h, .int p1] : List Value).toArray s 0 0 A) (F0 m 9 ls []))
      (fun (x2 : Int32) (x3 : Int32) (x4 : Int32) (x5 : Int32) (x6 : Int32) (x7 : Int32) (I : Nat → Int32) (R : Nat → Nat → Int32) => ∀ (H : Heap) (locs : List Loc) (ls : Array Slot), va_P (dC, dI) vwCl (wd4 cI h ad I R) H → va_D A (wd4 cI h ad I R) → va_S A s.heap H locs → lv_has ls 10 [(0, .ref h), (2, .int x2), (3, .int x3), (4, .int x4), (5, .int x5), (6, .int x6), (7, .int x7)] → W p l e (headSpec wsX4_layAll ({ frames := 2, cells := 0, slots := 0, locals := 55 } : Room)).room s m ([.ref h, .int p1] : List Value).toArray below meth c H locs 0 0 (MQ below (va_Qi (fun r (u : (Nat → Int32) × (Nat → Nat → Int32)) => post r u.1 u.2) (wAt (dC, dI) vwCl [(cI, .int)] A (fun u : (Nat → Int32) × (Nat → Nat → Int32) => wd4 cI h ad u.1 u.2)) A) ([.ref h, .int p1] : List Value).toArray s 0 0 A) (F0 m 32 ls []))
      (fun (x2 : Int32) (x3 : Int32) (x4 : Int32) (x5 : Int32) (x6 : Int32) (x7 : Int32) (x8 : Int32) (k0 : Int32) (I : Nat → Int32) (R : Nat → Nat → Int32) => ∀ (H : Heap) (locs : List Loc) (ls : Array Slot), va_P (dC, dI) vwCl (wd4 cI h ad I R) H → va_D A (wd4 cI h ad I R) → va_S A s.heap H locs → lv_has ls 10 [(0, .ref h), (2, .int x2), (3, .int x3), (4, .int x4), (5, .int x5), (6, .int x6), (7, .int x7), (8, .int x8)] → W p l e (headSpec wsX4_layAll ({ frames := 2, cells := 0, slots := 0, locals := 55 } : Room)).room s m ([.ref h, .int p1] : List Value).toArray below meth c H locs 0 0 (MQ below (va_Qi (fun r (u : (Nat → Int32) × (Nat → Nat → Int32)) => post r u.1 u.2) (wAt (dC, dI) vwCl [(cI, .int)] A (fun u : (Nat → Int32) × (Nat → Nat → Int32) => wd4 cI h ad u.1 u.2)) A) ([.ref h, .int p1] : List Value).toArray s 0 0 A) (F0 m 76 ls [.int k0]))
      (fun (x2 : Int32) (x3 : Int32) (x4 : Int32) (x5 : Int32) (x6 : Int32) (x7 : Int32) (I : Nat → Int32) (R : Nat → Nat → Int32) => ∀ (H : Heap) (locs : List Loc) (ls : Array Slot), va_P (dC, dI) vwCl (wd4 cI h ad I R) H → va_D A (wd4 cI h ad I R) → va_S A s.heap H locs → lv_has ls 10 [(0, .ref h), (2, .int x2), (3, .int x3), (4, .int x4), (5, .int x5), (6, .int x6), (7, .int x7)] → W p l e (headSpec wsX4_layAll ({ frames := 2, cells := 0, slots := 0, locals := 55 } : Room)).room s m ([.ref h, .int p1] : List Value).toArray below meth c H locs 0 0 (MQ below (va_Qi (fun r (u : (Nat → Int32) × (Nat → Nat → Int32)) => post r u.1 u.2) (wAt (dC, dI) vwCl [(cI, .int)] A (fun u : (Nat → Int32) × (Nat → Nat → Int32) => wd4 cI h ad u.1 u.2)) A) ([.ref h, .int p1] : List Value).toArray s 0 0 A) (F0 m 134 ls [])) := by
    refine ⟨?_, ?_, ?_, ?_⟩
    · intro x2 x3 I R hq H locs ls hP hD hS hl
      refine lv_iload_n hx hb dX4_layAll_9 rfl (lv_at hl 1 rfl) ?_
      refine lv_if_eq (tgt := 173) hx hb dX4_layAll_10 (by decide) (fun hc => ?_) (fun hc => ?_)
      · have hq := hq.1 hc
        refine lv_iload_n hx hb dX4_layAll_173 rfl (lv_at hl 2 rfl) ?_
        exact w_iret (post := fun r (u : (Nat → Int32) × (Nat → Nat → Int32)) => post r u.1 u.2) (wf := fun u : (Nat → Int32) × (Nat → Nat → Int32) => wd4 cI h ad u.1 u.2) (u := (I, R)) hx hb hr hK hP hD hS hq dX4_layAll_174 hlocks
      · have hq := hq.2 hc
        refine lv_iload_n hx hb dX4_layAll_13 rfl (lv_at hl 1 rfl) ?_
        refine lv_iload_n hx hb dX4_layAll_14 rfl (lv_at hl 1 rfl) ?_
        refine lv_ineg hx hb dX4_layAll_15 ?_
        refine lv_iand hx hb dX4_layAll_16 ?_
        refine lv_topi (fun x4_2 ex4_2 => ?_)
        have hq := hq x4_2 ex4_2
        refine lv_istore (lv' := [(4, .int x4_2), (0, .ref h), (2, .int x2), (3, .int x3)]) hx hb dX4_layAll_17 hl (by decide) rfl (fun ls hl => ?_)
        refine lv_iload_n hx hb dX4_layAll_19 rfl (lv_at hl 2 rfl) ?_
        refine lv_iload hx hb dX4_layAll_20 (lv_at hl 0 rfl) ?_
        refine lv_ixor hx hb dX4_layAll_22 ?_
        refine lv_topi (fun x5_3 ex5_3 => ?_)
        have hq := hq x5_3 ex5_3
        refine lv_istore (lv' := [(5, .int x5_3), (4, .int x4_2), (0, .ref h), (2, .int x2), (3, .int x3)]) hx hb dX4_layAll_23 hl (by decide) rfl (fun ls hl => ?_)
        refine lv_iconst (v := (-1 : Int32)) hx hb dX4_layAll_25 (by decide) ?_
        refine lv_istore (lv' := [(6, .int (-1 : Int32)), (5, .int x5_3), (4, .int x4_2), (0, .ref h), (2, .int x2), (3, .int x3)]) hx hb dX4_layAll_26 hl (by decide) rfl (fun ls hl => ?_)
        refine lv_iload hx hb dX4_layAll_28 (lv_at hl 1 rfl) ?_
        refine lv_istore (lv' := [(7, .int x5_3), (6, .int (-1 : Int32)), (5, .int x5_3), (4, .int x4_2), (0, .ref h), (2, .int x2), (3, .int x3)]) hx hb dX4_layAll_30 hl (by decide) rfl (fun ls hl => ?_)
        exact hq _ _ ls hP hD hS (lv_sub hl [4, 5, 6, 3, 2, 1, 0] rfl)
    · intro x2 x3 x4 x5 x6 x7 I R hq H locs ls hP hD hS hl
      refine lv_iload hx hb dX4_layAll_32 (lv_at hl 6 rfl) ?_
      refine lv_iload hx hb dX4_layAll_34 (lv_at hl 3 rfl) ?_
      refine lv_ior hx hb dX4_layAll_36 ?_
      refine lv_topi (fun x8_4 ex8_4 => ?_)
      have hq := hq x8_4 ex8_4
      refine lv_istore (lv' := [(8, .int x8_4), (0, .ref h), (2, .int x2), (3, .int x3), (4, .int x4), (5, .int x5), (6, .int x6), (7, .int x7)]) hx hb dX4_layAll_37 hl (by decide) rfl (fun ls hl => ?_)
      refine lv_aload_n hx hb dX4_layAll_39 rfl (lv_at hl 1 rfl) ?_
      refine va_get (D := (dC, dI)) (ci := 4) (v := .ref (ad 24)) (C := RX4) (T := TX4) (N := 27) hx hb hts nX4_layAll_X4 hown hK hP 0 rfl rfl 24 (by decide) (hts _ mX4_layAll_f62) (fun _ h9 => h9) rfl dX4_layAll_40 ?_
      refine lv_iload hx hb dX4_layAll_43 (lv_at hl 0 rfl) ?_
      obtain ⟨hi_5, hq⟩ := hq
      refine va_iald (f := R 24) hx hb hK hP 15 0 rfl rfl hi_5 dX4_layAll_45 ?_
      refine lv_bipush (v := (12 : Int32)) hx hb dX4_layAll_46 (by decide) ?_
      refine lv_icmp_gt (tgt := 75) hx hb dX4_layAll_48 (by decide) (fun hc => ?_) (fun hc => ?_)
      · have hq := hq.1 hc
        refine lv_iconst (v := (0 : Int32)) hx hb dX4_layAll_75 (by decide) ?_
        exact hq _ _ ls hP hD hS (lv_sub hl [1, 2, 3, 4, 5, 6, 7, 0] rfl)
      · have hq := hq.2 hc
        refine lv_aload_n hx hb dX4_layAll_51 rfl (lv_at hl 1 rfl) ?_
        refine va_get (D := (dC, dI)) (ci := 4) (v := .ref (ad 25)) (C := RX4) (T := TX4) (N := 27) hx hb hts nX4_layAll_X4 hown hK hP 0 rfl rfl 25 (by decide) (hts _ mX4_layAll_f65) (fun _ h9 => h9) rfl dX4_layAll_52 ?_
        refine lv_iload_n hx hb dX4_layAll_55 rfl (lv_at hl 2 rfl) ?_
        refine lv_iload hx hb dX4_layAll_56 (lv_at hl 0 rfl) ?_
        refine lv_ixor hx hb dX4_layAll_58 ?_
        obtain ⟨hi_6, hq⟩ := hq
        refine va_iald (f := R 25) hx hb hK hP 16 0 rfl rfl hi_6 dX4_layAll_59 ?_
        refine lv_aload_n hx hb dX4_layAll_60 rfl (lv_at hl 1 rfl) ?_
        refine va_get (D := (dC, dI)) (ci := 4) (v := .ref (ad 25)) (C := RX4) (T := TX4) (N := 27) hx hb hts nX4_layAll_X4 hown hK hP 0 rfl rfl 25 (by decide) (hts _ mX4_layAll_f65) (fun _ h9 => h9) rfl dX4_layAll_61 ?_
        refine lv_iload_n hx hb dX4_layAll_64 rfl (lv_at hl 2 rfl) ?_
        obtain ⟨hi_7, hq⟩ := hq
        refine va_iald (f := R 25) hx hb hK hP 16 0 rfl rfl hi_7 dX4_layAll_65 ?_
        refine lv_iconst (v := (1 : Int32)) hx hb dX4_layAll_66 (by decide) ?_
        refine lv_isub hx hb dX4_layAll_67 ?_
        refine lv_icmp_ne (tgt := 75) hx hb dX4_layAll_68 (by decide) (fun hc => ?_) (fun hc => ?_)
        · have hq := hq.1 hc
          refine lv_iconst (v := (0 : Int32)) hx hb dX4_layAll_75 (by decide) ?_
          exact hq _ _ ls hP hD hS (lv_sub hl [1, 2, 3, 4, 5, 6, 7, 0] rfl)
        · have hq := hq.2 hc
          refine lv_iconst (v := (1 : Int32)) hx hb dX4_layAll_71 (by decide) ?_
          refine lv_goto (tgt := 76) hx hb dX4_layAll_72 (by decide) ?_
          exact hq _ _ ls hP hD hS (lv_sub hl [1, 2, 3, 4, 5, 6, 7, 0] rfl)
    · intro x2 x3 x4 x5 x6 x7 x8 k0 I R hq H locs ls hP hD hS hl
      refine lv_istore (lv' := [(9, .int k0), (0, .ref h), (2, .int x2), (3, .int x3), (4, .int x4), (5, .int x5), (6, .int x6), (7, .int x7), (8, .int x8)]) hx hb dX4_layAll_76 hl (by decide) rfl (fun ls hl => ?_)
      refine lv_iload hx hb dX4_layAll_78 (lv_at hl 0 rfl) ?_
      refine lv_if_eq (tgt := 134) hx hb dX4_layAll_80 (by decide) (fun hc => ?_) (fun hc => ?_)
      · have hq := hq.1 hc
        exact hq _ _ ls hP hD hS (lv_sub hl [1, 2, 3, 4, 5, 6, 7] rfl)
      · have hq := hq.2 hc
        refine lv_iload hx hb dX4_layAll_83 (lv_at hl 6 rfl) ?_
        refine lv_iconst (v := (-1 : Int32)) hx hb dX4_layAll_85 (by decide) ?_
        refine lv_icmp_eq (tgt := 130) hx hb dX4_layAll_86 (by decide) (fun hc => ?_) (fun hc => ?_)
        · have hq := hq.1 hc
          refine lv_iload hx hb dX4_layAll_130 (lv_at hl 8 rfl) ?_
          refine lv_istore (lv' := [(6, .int x8), (9, .int k0), (0, .ref h), (2, .int x2), (3, .int x3), (4, .int x4), (5, .int x5), (7, .int x7), (8, .int x8)]) hx hb dX4_layAll_132 hl (by decide) rfl (fun ls hl => ?_)
          exact hq _ _ ls hP hD hS (lv_sub hl [2, 3, 4, 5, 6, 0, 7] rfl)
        · have hq := hq.2 hc
          refine lv_aload_n hx hb dX4_layAll_89 rfl (lv_at hl 1 rfl) ?_
          refine va_get (D := (dC, dI)) (ci := 4) (v := .ref (ad 24)) (C := RX4) (T := TX4) (N := 27) hx hb hts nX4_layAll_X4 hown hK hP 0 rfl rfl 24 (by decide) (hts _ mX4_layAll_f62) (fun _ h9 => h9) rfl dX4_layAll_90 ?_
          refine lv_iload hx hb dX4_layAll_93 (lv_at hl 8 rfl) ?_
          obtain ⟨hi_8, hq⟩ := hq
          refine va_iald (f := R 24) hx hb hK hP 15 0 rfl rfl hi_8 dX4_layAll_95 ?_
          refine lv_aload_n hx hb dX4_layAll_96 rfl (lv_at hl 1 rfl) ?_
          refine va_get (D := (dC, dI)) (ci := 4) (v := .ref (ad 24)) (C := RX4) (T := TX4) (N := 27) hx hb hts nX4_layAll_X4 hown hK hP 0 rfl rfl 24 (by decide) (hts _ mX4_layAll_f62) (fun _ h9 => h9) rfl dX4_layAll_97 ?_
          refine lv_iload hx hb dX4_layAll_100 (lv_at hl 6 rfl) ?_
          obtain ⟨hi_9, hq⟩ := hq
          refine va_iald (f := R 24) hx hb hK hP 15 0 rfl rfl hi_9 dX4_layAll_102 ?_
          refine lv_icmp_gt (tgt := 130) hx hb dX4_layAll_103 (by decide) (fun hc => ?_) (fun hc => ?_)
          · have hq := hq.1 hc
            refine lv_iload hx hb dX4_layAll_130 (lv_at hl 8 rfl) ?_
            refine lv_istore (lv' := [(6, .int x8), (9, .int k0), (0, .ref h), (2, .int x2), (3, .int x3), (4, .int x4), (5, .int x5), (7, .int x7), (8, .int x8)]) hx hb dX4_layAll_132 hl (by decide) rfl (fun ls hl => ?_)
            exact hq _ _ ls hP hD hS (lv_sub hl [2, 3, 4, 5, 6, 0, 7] rfl)
          · have hq := hq.2 hc
            refine lv_aload_n hx hb dX4_layAll_106 rfl (lv_at hl 1 rfl) ?_
            refine va_get (D := (dC, dI)) (ci := 4) (v := .ref (ad 24)) (C := RX4) (T := TX4) (N := 27) hx hb hts nX4_layAll_X4 hown hK hP 0 rfl rfl 24 (by decide) (hts _ mX4_layAll_f62) (fun _ h9 => h9) rfl dX4_layAll_107 ?_
            refine lv_iload hx hb dX4_layAll_110 (lv_at hl 8 rfl) ?_
            refine va_iald (f := R 24) hx hb hK hP 15 0 rfl rfl hi_8 dX4_layAll_112 ?_
            refine lv_aload_n hx hb dX4_layAll_113 rfl (lv_at hl 1 rfl) ?_
            refine va_get (D := (dC, dI)) (ci := 4) (v := .ref (ad 24)) (C := RX4) (T := TX4) (N := 27) hx hb hts nX4_layAll_X4 hown hK hP 0 rfl rfl 24 (by decide) (hts _ mX4_layAll_f62) (fun _ h9 => h9) rfl dX4_layAll_114 ?_
            refine lv_iload hx hb dX4_layAll_117 (lv_at hl 6 rfl) ?_
            refine va_iald (f := R 24) hx hb hK hP 15 0 rfl rfl hi_9 dX4_layAll_119 ?_
            refine lv_icmp_ne (tgt := 134) hx hb dX4_layAll_120 (by decide) (fun hc => ?_) (fun hc => ?_)
            · have hq := hq.1 hc
              exact hq _ _ ls hP hD hS (lv_sub hl [1, 2, 3, 4, 5, 6, 7] rfl)
            · have hq := hq.2 hc
              refine lv_iload hx hb dX4_layAll_123 (lv_at hl 8 rfl) ?_
              refine lv_iload hx hb dX4_layAll_125 (lv_at hl 6 rfl) ?_
              refine lv_icmp_ge (tgt := 134) hx hb dX4_layAll_127 (by decide) (fun hc => ?_) (fun hc => ?_)
              · have hq := hq.1 hc
                exact hq _ _ ls hP hD hS (lv_sub hl [1, 2, 3, 4, 5, 6, 7] rfl)
              · have hq := hq.2 hc
                refine lv_iload hx hb dX4_layAll_130 (lv_at hl 8 rfl) ?_
                refine lv_istore (lv' := [(6, .int x8), (9, .int k0), (0, .ref h), (2, .int x2), (3, .int x3), (4, .int x4), (5, .int x5), (7, .int x7), (8, .int x8)]) hx hb dX4_layAll_132 hl (by decide) rfl (fun ls hl => ?_)
                exact hq _ _ ls hP hD hS (lv_sub hl [2, 3, 4, 5, 6, 0, 7] rfl)
    · intro x2 x3 x4 x5 x6 x7 I R hq H locs ls hP hD hS hl
      refine lv_iload hx hb dX4_layAll_134 (lv_at hl 6 rfl) ?_
      refine lv_if_ne (tgt := 142) hx hb dX4_layAll_136 (by decide) (fun hc => ?_) (fun hc => ?_)
      · have hq := hq.1 hc
        refine lv_iload hx hb dX4_layAll_142 (lv_at hl 6 rfl) ?_
        refine lv_iconst (v := (1 : Int32)) hx hb dX4_layAll_144 (by decide) ?_
        refine lv_isub hx hb dX4_layAll_145 ?_
        refine lv_iload hx hb dX4_layAll_146 (lv_at hl 4 rfl) ?_
        refine lv_iand hx hb dX4_layAll_148 ?_
        refine lv_topi (fun x7_10 ex7_10 => ?_)
        have hq := hq x7_10 ex7_10
        refine lv_istore (lv' := [(7, .int x7_10), (0, .ref h), (2, .int x2), (3, .int x3), (4, .int x4), (5, .int x5), (6, .int x6)]) hx hb dX4_layAll_149 hl (by decide) rfl (fun ls hl => ?_)
        refine lv_goto (tgt := 32) hx hb dX4_layAll_151 (by decide) ?_
        exact hq _ _ ls hP hD hS (lv_sub hl [1, 2, 3, 4, 5, 6, 0] rfl)
      · have hq := hq.2 hc
        refine lv_goto (tgt := 154) hx hb dX4_layAll_139 (by decide) ?_
        refine lv_aload_n hx hb dX4_layAll_154 rfl (lv_at hl 0 rfl) ?_
        refine va_get (D := (dC, dI)) (ci := 4) (v := .ref (ad 26)) (C := RX4) (T := TX4) (N := 27) hx hb hts nX4_layAll_X4 hown hK hP 0 rfl rfl 26 (by decide) (hts _ mX4_layAll_f68) (fun _ h9 => h9) rfl dX4_layAll_155 ?_
        refine lv_iload_n hx hb dX4_layAll_158 rfl (lv_at hl 2 rfl) ?_
        refine lv_iload hx hb dX4_layAll_159 (lv_at hl 5 rfl) ?_
        obtain ⟨hi_11, hq⟩ := hq
        refine va_iast (f := R 26) hx hb hK hP hD hS 17 0 rfl rfl hi_11 dX4_layAll_161 (fun H locs hP hD hS => ?_)
        rw [wd4_R26] at hP hD
        refine lv_iinc (v := x3 + (1 : Int32)) (lv' := [(3, .int (x3 + (1 : Int32))), (0, .ref h), (2, .int x2), (4, .int x4), (5, .int x5), (6, .int x6), (7, .int x7)]) hx hb dX4_layAll_162 hl (k := 2) rfl rfl (by decide) rfl (fun ls hl => ?_)
        refine lv_iload_n hx hb dX4_layAll_165 rfl (lv_at hl 2 rfl) ?_
        refine lv_iload hx hb dX4_layAll_166 (lv_at hl 5 rfl) ?_
        refine lv_ixor hx hb dX4_layAll_168 ?_
        refine lv_topi (fun x2_12 ex2_12 => ?_)
        have hq := hq x2_12 ex2_12
        refine lv_istore_n (lv' := [(2, .int x2_12), (3, .int (x3 + (1 : Int32))), (0, .ref h), (4, .int x4), (5, .int x5), (6, .int x6), (7, .int x7)]) hx hb dX4_layAll_169 rfl hl (by decide) rfl (fun ls hl => ?_)
        refine lv_goto (tgt := 9) hx hb dX4_layAll_170 (by decide) ?_
        exact hq _ _ ls hP hD hS (lv_sub hl [2, 0, 1] rfl)
  have hl := lv_entry ([.ref h, .int p1]) (n := 10) (Nat.le_of_ble_eq_true rfl)
  rw [lg_entry_eq]
  generalize (lg_sl ([.ref h, .int p1]) ++ List.replicate (10 - (lg_sl ([.ref h, .int p1])).length) Slot.unset).toArray = ls at hl ⊢
  have hl : lv_has ls 10 [(0, .ref h), (1, .int p1)] := hl
  refine lv_aload_n hx hb dX4_layAll_0 rfl (lv_at hl 0 rfl) ?_
  refine lv_iload_n hx hb dX4_layAll_1 rfl (lv_at hl 1 rfl) ?_
  obtain ⟨Pc_1, hc, hq⟩ := hq
  refine w_callv (wf := fun u : (Nat → Int32) × (Nat → Nat → Int32) => wd4 cI h ad u.1 u.2) (va_runV (As := [.int p1]) (rest := []) ⟨hx, hb, hml, hown, hts⟩ (tX4_pack l dC dI cI h ad _ Pc_1 p1 I R hc) (cwV 1 hts gX4_layAll_X4_pack rfl rfl rfl (by decide +kernel) ⟨Nat.le_of_ble_eq_true rfl, Nat.le_of_ble_eq_true rfl⟩) (wPreV hK hP hD (ci := 4) (q0 := 0) rfl rfl) rfl rfl hl.1 rfl (lv_room (Nat.le_of_ble_eq_true rfl)) dX4_layAll_2 ⟨Nat.le_of_ble_eq_true rfl, Nat.le_of_ble_eq_true rfl⟩) hD hS hA (fun u H locs hp hP hD hS => ?_)
  obtain ⟨Ic_1, Rc_1⟩ := u
  have hq := hq Ic_1 Rc_1 hp
  have hP : va_P (dC, dI) vwCl (wd4 cI h ad Ic_1 Rc_1) H := hP
  have hD : va_D A (wd4 cI h ad Ic_1 Rc_1) := hD
  refine lv_iload_n hx hb dX4_layAll_5 rfl (lv_at hl 1 rfl) ?_
  refine lv_istore_n (lv' := [(2, .int p1), (0, .ref h), (1, .int p1)]) hx hb dX4_layAll_6 rfl hl (by decide) rfl (fun ls hl => ?_)
  refine lv_iconst (v := (0 : Int32)) hx hb dX4_layAll_7 (by decide) ?_
  refine lv_istore_n (lv' := [(3, .int (0 : Int32)), (2, .int p1), (0, .ref h), (1, .int p1)]) hx hb dX4_layAll_8 rfl hl (by decide) rfl (fun ls hl => ?_)
  exact hq _ _ _ _ hZ _ _ ls hP hD hS (lv_sub hl [2, 1, 0] rfl)
def zX4_late (post : Int32 → (Nat → Int32) → (Nat → Nat → Int32) → Prop) (p1 : Int32) (X58 : Int32 → Int32 → (Nat → Int32) → (Nat → Nat → Int32) → Prop) (X188 : Int32 → Int32 → Int32 → Int32 → (Nat → Int32) → (Nat → Nat → Int32) → Prop) (X232 : Int32 → Int32 → Int32 → Int32 → Int32 → Int32 → (Nat → Int32) → (Nat → Nat → Int32) → Prop) : Prop :=
  (∀ (x2 : Int32) (x3 : Int32) (I : Nat → Int32) (R : Nat → Nat → Int32), (((((1 : Int32) <<< ((I 18) &&& 31)) ≤ x3) → (((¬ x2 = 0) → (∃ Pc_4 : Int32 → Prop, qX4_on Pc_4 x2 I R ∧ (∀ (rc_4 : Int32), Pc_4 rc_4 → (∃ Pc_5 : Int32 → (Nat → Int32) → (Nat → Nat → Int32) → Prop, qX4_layAll Pc_5 (rc_4 ||| ((1 : Int32) <<< (p1 &&& 31))) I R ∧ (∀ (rc_5 : Int32) (Ic_5 : Nat → Int32) (Rc_5 : Nat → Nat → Int32), Pc_5 rc_5 Ic_5 Rc_5 → (X188 x2 rc_5 (0 : Int32) (0 : Int32) Ic_5 Rc_5)))))) ∧ ((x2 = 0) → ((((I 18) < (I 15)) → (vp_in (I 18) 14 ∧ (post (1 : Int32) (va_up (va_up I 18 ((I 18) + (1 : Int32))) 16 ((I 16) ||| ((1 : Int32) <<< (p1 &&& 31)))) (va_up R 17 (upd (R 17) (I 18).toNatClampNeg ((1 : Int32) <<< (p1 &&& 31))))))) ∧ ((¬ (I 18) < (I 15)) → (post (-1 : Int32) I R)))))) ∧ ((¬ ((1 : Int32) <<< ((I 18) &&& 31)) ≤ x3) → (∃ Pc_7 : Int32 → Prop, qX4_on Pc_7 x3 I R ∧ (∀ (rc_7 : Int32), Pc_7 rc_7 → (vp_in (rc_7 ||| ((1 : Int32) <<< (p1 &&& 31))) 16384 ∧ (∃ Pc_9 : Int32 → Prop, qJ6_bitCount_0f7a4 Pc_9 x3 ∧ (∀ (rc_9 : Int32), Pc_9 rc_9 → ((((R 25 (rc_7 ||| ((1 : Int32) <<< (p1 &&& 31))).toNatClampNeg) ≤ rc_9) → (((x2 = 0) → (X58 x3 (x3 + (1 : Int32)) I R)) ∧ ((¬ x2 = 0) → (∃ Pc_10 : Int32 → Prop, qJ6_bitCount_0f7a4 Pc_10 x3 ∧ (∀ (rc_10 : Int32), Pc_10 rc_10 → (∃ Pc_11 : Int32 → Prop, qJ6_bitCount_0f7a4 Pc_11 x2 ∧ (∀ (rc_11 : Int32), Pc_11 rc_11 → (((rc_11 ≤ rc_10) → (X58 x2 (x3 + (1 : Int32)) I R)) ∧ ((¬ rc_11 ≤ rc_10) → (X58 x3 (x3 + (1 : Int32)) I R)))))))))) ∧ ((¬ (R 25 (rc_7 ||| ((1 : Int32) <<< (p1 &&& 31))).toNatClampNeg) ≤ rc_9) → (X58 x2 (x3 + (1 : Int32)) I R)))))))))) → X58 x2 x3 I R) ∧
  (∀ (x2 : Int32) (x3 : Int32) (x4 : Int32) (x5 : Int32) (I : Nat → Int32) (R : Nat → Nat → Int32), ((((I 18) ≤ x5) → (∃ Pc_12 : Int32 → Prop, qJ6_bitCount_0f7a4 Pc_12 x2 ∧ (∀ (rc_12 : Int32), Pc_12 rc_12 → (post rc_12 (va_up I 16 ((I 16) ||| ((1 : Int32) <<< (p1 &&& 31)))) R)))) ∧ ((¬ (I 18) ≤ x5) → (((¬ ((x2 >>> (x5 &&& 31)) &&& (1 : Int32)) = 0) → (((x3 ≤ x4) → (X232 x2 x3 x4 x5 (0 : Int32) x5 I R)) ∧ ((¬ x3 ≤ x4) → (vp_in x4 14 ∧ (X232 x2 x3 x4 x5 (R 26 x4.toNatClampNeg) x5 I R))))) ∧ ((((x2 >>> (x5 &&& 31)) &&& (1 : Int32)) = 0) → (X188 x2 x3 x4 (x5 + (1 : Int32)) I R))))) → X188 x2 x3 x4 x5 I R) ∧
  (∀ (x2 : Int32) (x3 : Int32) (x4 : Int32) (x5 : Int32) (k0 : Int32) (k1 : Int32) (I : Nat → Int32) (R : Nat → Nat → Int32), (vp_in k1 14 ∧ (X188 x2 x3 (x4 + (1 : Int32)) (x5 + (1 : Int32)) I (va_up R 17 (upd (R 17) k1.toNatClampNeg k0)))) → X232 x2 x3 x4 x5 k0 k1 I R)
def qX4_late_58 (post : Int32 → (Nat → Int32) → (Nat → Nat → Int32) → Prop) (p1 : Int32) (x2 : Int32) (x3 : Int32) (I : Nat → Int32) (R : Nat → Nat → Int32) : Prop := ∀ (X58 : Int32 → Int32 → (Nat → Int32) → (Nat → Nat → Int32) → Prop) (X188 : Int32 → Int32 → Int32 → Int32 → (Nat → Int32) → (Nat → Nat → Int32) → Prop) (X232 : Int32 → Int32 → Int32 → Int32 → Int32 → Int32 → (Nat → Int32) → (Nat → Nat → Int32) → Prop), zX4_late post p1 X58 X188 X232 → X58 x2 x3 I R
def qX4_late_188 (post : Int32 → (Nat → Int32) → (Nat → Nat → Int32) → Prop) (p1 : Int32) (x2 : Int32) (x3 : Int32) (x4 : Int32) (x5 : Int32) (I : Nat → Int32) (R : Nat → Nat → Int32) : Prop := ∀ (X58 : Int32 → Int32 → (Nat → Int32) → (Nat → Nat → Int32) → Prop) (X188 : Int32 → Int32 → Int32 → Int32 → (Nat → Int32) → (Nat → Nat → Int32) → Prop) (X232 : Int32 → Int32 → Int32 → Int32 → Int32 → Int32 → (Nat → Int32) → (Nat → Nat → Int32) → Prop), zX4_late post p1 X58 X188 X232 → X188 x2 x3 x4 x5 I R
def qX4_late_232 (post : Int32 → (Nat → Int32) → (Nat → Nat → Int32) → Prop) (p1 : Int32) (x2 : Int32) (x3 : Int32) (x4 : Int32) (x5 : Int32) (k0 : Int32) (k1 : Int32) (I : Nat → Int32) (R : Nat → Nat → Int32) : Prop := ∀ (X58 : Int32 → Int32 → (Nat → Int32) → (Nat → Nat → Int32) → Prop) (X188 : Int32 → Int32 → Int32 → Int32 → (Nat → Int32) → (Nat → Nat → Int32) → Prop) (X232 : Int32 → Int32 → Int32 → Int32 → Int32 → Int32 → (Nat → Int32) → (Nat → Nat → Int32) → Prop), zX4_late post p1 X58 X188 X232 → X232 x2 x3 x4 x5 k0 k1 I R
theorem kX4_late_58 {post : Int32 → (Nat → Int32) → (Nat → Nat → Int32) → Prop} {p1 : Int32} {x2 : Int32} {x3 : Int32} {I : Nat → Int32} {R : Nat → Nat → Int32} (h : ((((1 : Int32) <<< ((I 18) &&& 31)) ≤ x3) → (((¬ x2 = 0) → (∃ Pc_4 : Int32 → Prop, qX4_on Pc_4 x2 I R ∧ (∀ (rc_4 : Int32), Pc_4 rc_4 → (∃ Pc_5 : Int32 → (Nat → Int32) → (Nat → Nat → Int32) → Prop, qX4_layAll Pc_5 (rc_4 ||| ((1 : Int32) <<< (p1 &&& 31))) I R ∧ (∀ (rc_5 : Int32) (Ic_5 : Nat → Int32) (Rc_5 : Nat → Nat → Int32), Pc_5 rc_5 Ic_5 Rc_5 → (qX4_late_188 post p1 x2 rc_5 (0 : Int32) (0 : Int32) Ic_5 Rc_5)))))) ∧ ((x2 = 0) → ((((I 18) < (I 15)) → (vp_in (I 18) 14 ∧ (post (1 : Int32) (va_up (va_up I 18 ((I 18) + (1 : Int32))) 16 ((I 16) ||| ((1 : Int32) <<< (p1 &&& 31)))) (va_up R 17 (upd (R 17) (I 18).toNatClampNeg ((1 : Int32) <<< (p1 &&& 31))))))) ∧ ((¬ (I 18) < (I 15)) → (post (-1 : Int32) I R)))))) ∧ ((¬ ((1 : Int32) <<< ((I 18) &&& 31)) ≤ x3) → (∃ Pc_7 : Int32 → Prop, qX4_on Pc_7 x3 I R ∧ (∀ (rc_7 : Int32), Pc_7 rc_7 → (vp_in (rc_7 ||| ((1 : Int32) <<< (p1 &&& 31))) 16384 ∧ (∃ Pc_9 : Int32 → Prop, qJ6_bitCount_0f7a4 Pc_9 x3 ∧ (∀ (rc_9 : Int32), Pc_9 rc_9 → ((((R 25 (rc_7 ||| ((1 : Int32) <<< (p1 &&& 31))).toNatClampNeg) ≤ rc_9) → (((x2 = 0) → (qX4_late_58 post p1 x3 (x3 + (1 : Int32)) I R)) ∧ ((¬ x2 = 0) → (∃ Pc_10 : Int32 → Prop, qJ6_bitCount_0f7a4 Pc_10 x3 ∧ (∀ (rc_10 : Int32), Pc_10 rc_10 → (∃ Pc_11 : Int32 → Prop, qJ6_bitCount_0f7a4 Pc_11 x2 ∧ (∀ (rc_11 : Int32), Pc_11 rc_11 → (((rc_11 ≤ rc_10) → (qX4_late_58 post p1 x2 (x3 + (1 : Int32)) I R)) ∧ ((¬ rc_11 ≤ rc_10) → (qX4_late_58 post p1 x3 (x3 + (1 : Int32)) I R)))))))))) ∧ ((¬ (R 25 (rc_7 ||| ((1 : Int32) <<< (p1 &&& 31))).toNatClampNeg) ≤ rc_9) → (qX4_late_58 post p1 x2 (x3 + (1 : Int32)) I R)))))))))) : qX4_late_58 post p1 x2 x3 I R := by
  intro Z58 Z188 Z232 hcl
  refine hcl.1 x2 x3 I R ?_
  refine ⟨fun c => ?_, fun c => ?_⟩
  · have h := h.1 c
    refine ⟨fun c => ?_, fun c => ?_⟩
    · have h := h.1 c
      obtain ⟨P, h1, h2⟩ := h
      refine ⟨P, h1, fun b0 hp => ?_⟩
      have h := h2 b0 hp
      obtain ⟨P, h1, h2⟩ := h
      refine ⟨P, h1, fun b0 b1 b2 hp => ?_⟩
      have h := h2 b0 b1 b2 hp
      exact h _ _ _ hcl
    · have h := h.2 c
      refine ⟨fun c => ?_, fun c => ?_⟩
      · have h := h.1 c
        refine ⟨h.1, ?_⟩
        have h := h.2
        exact h
      · have h := h.2 c
        exact h
  · have h := h.2 c
    obtain ⟨P, h1, h2⟩ := h
    refine ⟨P, h1, fun b0 hp => ?_⟩
    have h := h2 b0 hp
    refine ⟨h.1, ?_⟩
    have h := h.2
    obtain ⟨P, h1, h2⟩ := h
    refine ⟨P, h1, fun b0 hp => ?_⟩
    have h := h2 b0 hp
    refine ⟨fun c => ?_, fun c => ?_⟩
    · have h := h.1 c
      refine ⟨fun c => ?_, fun c => ?_⟩
      · have h := h.1 c
        exact h _ _ _ hcl
      · have h := h.2 c
        obtain ⟨P, h1, h2⟩ := h
        refine ⟨P, h1, fun b0 hp => ?_⟩
        have h := h2 b0 hp
        obtain ⟨P, h1, h2⟩ := h
        refine ⟨P, h1, fun b0 hp => ?_⟩
        have h := h2 b0 hp
        refine ⟨fun c => ?_, fun c => ?_⟩
        · have h := h.1 c
          exact h _ _ _ hcl
        · have h := h.2 c
          exact h _ _ _ hcl
    · have h := h.2 c
      exact h _ _ _ hcl
theorem kX4_late_188 {post : Int32 → (Nat → Int32) → (Nat → Nat → Int32) → Prop} {p1 : Int32} {x2 : Int32} {x3 : Int32} {x4 : Int32} {x5 : Int32} {I : Nat → Int32} {R : Nat → Nat → Int32} (h : (((I 18) ≤ x5) → (∃ Pc_12 : Int32 → Prop, qJ6_bitCount_0f7a4 Pc_12 x2 ∧ (∀ (rc_12 : Int32), Pc_12 rc_12 → (post rc_12 (va_up I 16 ((I 16) ||| ((1 : Int32) <<< (p1 &&& 31)))) R)))) ∧ ((¬ (I 18) ≤ x5) → (((¬ ((x2 >>> (x5 &&& 31)) &&& (1 : Int32)) = 0) → (((x3 ≤ x4) → (qX4_late_232 post p1 x2 x3 x4 x5 (0 : Int32) x5 I R)) ∧ ((¬ x3 ≤ x4) → (vp_in x4 14 ∧ (qX4_late_232 post p1 x2 x3 x4 x5 (R 26 x4.toNatClampNeg) x5 I R))))) ∧ ((((x2 >>> (x5 &&& 31)) &&& (1 : Int32)) = 0) → (qX4_late_188 post p1 x2 x3 x4 (x5 + (1 : Int32)) I R))))) : qX4_late_188 post p1 x2 x3 x4 x5 I R := by
  intro Z58 Z188 Z232 hcl
  refine hcl.2.1 x2 x3 x4 x5 I R ?_
  refine ⟨fun c => ?_, fun c => ?_⟩
  · have h := h.1 c
    obtain ⟨P, h1, h2⟩ := h
    refine ⟨P, h1, fun b0 hp => ?_⟩
    have h := h2 b0 hp
    exact h
  · have h := h.2 c
    refine ⟨fun c => ?_, fun c => ?_⟩
    · have h := h.1 c
      refine ⟨fun c => ?_, fun c => ?_⟩
      · have h := h.1 c
        exact h _ _ _ hcl
      · have h := h.2 c
        refine ⟨h.1, ?_⟩
        have h := h.2
        exact h _ _ _ hcl
    · have h := h.2 c
      exact h _ _ _ hcl
theorem kX4_late_232 {post : Int32 → (Nat → Int32) → (Nat → Nat → Int32) → Prop} {p1 : Int32} {x2 : Int32} {x3 : Int32} {x4 : Int32} {x5 : Int32} {k0 : Int32} {k1 : Int32} {I : Nat → Int32} {R : Nat → Nat → Int32} (h : vp_in k1 14 ∧ (qX4_late_188 post p1 x2 x3 (x4 + (1 : Int32)) (x5 + (1 : Int32)) I (va_up R 17 (upd (R 17) k1.toNatClampNeg k0)))) : qX4_late_232 post p1 x2 x3 x4 x5 k0 k1 I R := by
  intro Z58 Z188 Z232 hcl
  refine hcl.2.2 x2 x3 x4 x5 k0 k1 I R ?_
  refine ⟨h.1, ?_⟩
  have h := h.2
  exact h _ _ _ hcl
def qX4_late (post : Int32 → (Nat → Int32) → (Nat → Nat → Int32) → Prop) (p1 : Int32) (I : Nat → Int32) (R : Nat → Nat → Int32) : Prop := ∃ Pc_1 : Int32 → Prop, qX4_isPicture Pc_1 p1 (va_up I 19 (0 : Int32)) R ∧ (∀ (rc_1 : Int32), Pc_1 rc_1 → (((rc_1 = 0) → (post (-1 : Int32) (va_up I 19 (0 : Int32)) R)) ∧ ((¬ rc_1 = 0) → ((((((I 16) >>> (p1 &&& 31)) &&& (1 : Int32)) = (1 : Int32)) → (post (-1 : Int32) (va_up I 19 (0 : Int32)) R)) ∧ ((¬ (((I 16) >>> (p1 &&& 31)) &&& (1 : Int32)) = (1 : Int32)) → (((¬ (I 18) = 0) → (∃ Pc_2 : Int32 → Prop, qX4_on Pc_2 (((1 : Int32) <<< ((I 18) &&& 31)) - (1 : Int32)) (va_up I 19 (0 : Int32)) R ∧ (∀ (rc_2 : Int32), Pc_2 rc_2 → (∃ Pc_3 : (Nat → Int32) → (Nat → Nat → Int32) → Prop, qX4_pack Pc_3 (rc_2 ||| ((1 : Int32) <<< (p1 &&& 31))) (va_up I 19 (0 : Int32)) R ∧ (∀ (Ic_3 : Nat → Int32) (Rc_3 : Nat → Nat → Int32), Pc_3 Ic_3 Rc_3 → (qX4_late_58 post p1 (0 : Int32) (1 : Int32) Ic_3 Rc_3)))))) ∧ (((I 18) = 0) → (post (-1 : Int32) (va_up I 19 (0 : Int32)) R))))))))
theorem mX4_late_f71 : Cond.fieldLink RX4 71 "YearBookModel" "thrown" "I" ∈ wsX4_late := by decide +kernel
theorem nX4_late_X4 : ∀ w ∈ u_ws RX4 TX4 27, w ∈ wsX4_late := by decide +kernel
theorem mX4_late_f108 : Cond.fieldLink RX4 108 "YearBookModel" "choice" "I" ∈ wsX4_late := by decide +kernel
theorem mX4_late_f114 : Cond.fieldLink RX4 114 "YearBookModel" "pageMany" "I" ∈ wsX4_late := by decide +kernel
theorem mX4_late_f47 : Cond.fieldLink RX4 47 "YearBookModel" "last" "I" ∈ wsX4_late := by decide +kernel
theorem mX4_late_f50 : Cond.fieldLink RX4 50 "YearBookModel" "pages" "[I" ∈ wsX4_late := by decide +kernel
theorem mX4_late_f65 : Cond.fieldLink RX4 65 "YearBookModel" "least" "[I" ∈ wsX4_late := by decide +kernel
theorem mX4_late_f68 : Cond.fieldLink RX4 68 "YearBookModel" "laid" "[I" ∈ wsX4_late := by decide +kernel
set_option maxHeartbeats 4000000 in
set_option maxRecDepth 100000 in
theorem tX4_late (l : Launch) (dC : Nat → ClassId) (dI : Nat → Nat → Nat) (cI : ClassId) (h : Nat) (ad : Nat → Nat)  (sz : Nat) (post : Int32 → (Nat → Int32) → (Nat → Nat → Int32) → Prop) (p1 : Int32) (I : Nat → Int32) (R : Nat → Nat → Int32) (hq : qX4_late post p1 I R) : Met l yX4_late wsX4_late ({ frames := 3, cells := 0, slots := 0, locals := 84 } : Room) (va_Pc [.ref h, .int p1] (wPre (dC, dI) vwCl [(cI, .int)] (wd4 cI h ad I R) sz)) (va_Qi (fun r (u : (Nat → Int32) × (Nat → Nat → Int32)) => post r u.1 u.2) (wAt (dC, dI) vwCl [(cI, .int)] (va_A (wd4 cI h ad I R) sz) (fun u : (Nat → Int32) × (Nat → Nat → Int32) => wd4 cI h ad u.1 u.2)) (va_A (wd4 cI h ad I R) sz)) 0 0 (va_A (wd4 cI h ad I R) sz) := by
  unfold qX4_late at hq
  refine Met.ofW (cc := cX4_late) (maxL := 6) (ret := (some .int)) (by decide) rfl ?_
  intro p e s m args below meth c s₁ B hml hv
  obtain ⟨rfl, hsz, hP, hK, hD0⟩ := hv
  have hx := B.exec
  have hb := B.bytes
  have hr := B.returns
  have hts := atoms_spec (ws := wsX4_late) B.pre
  have hown : s.vm.findClass RX4 = some m.cls := findClass_of_methodNamed B.named
  have hlocks := B.notSynchronized
  subst hsz
  have hD := hD0.self (sz := s.heap.size)
  generalize hAe : va_A (wd4 cI h ad I R) s.heap.size = A at hD ⊢
  have hA : ∀ q : Nat, s.heap.size ≤ q → A q := fun q h => by rw [← hAe]; exact Or.inr h
  have hS : va_S A s.heap s.heap [] := va_S.rf
  have hZ : zX4_late post p1
      (fun (x2 : Int32) (x3 : Int32) (I : Nat → Int32) (R : Nat → Nat → Int32) => ∀ (H : Heap) (locs : List Loc) (ls : Array Slot), va_P (dC, dI) vwCl (wd4 cI h ad I R) H → va_D A (wd4 cI h ad I R) → va_S A s.heap H locs → lv_has ls 6 [(0, .ref h), (1, .int p1), (2, .int x2), (3, .int x3)] → W p l e (headSpec wsX4_late ({ frames := 3, cells := 0, slots := 0, locals := 84 } : Room)).room s m ([.ref h, .int p1] : List Value).toArray below meth c H locs 0 0 (MQ below (va_Qi (fun r (u : (Nat → Int32) × (Nat → Nat → Int32)) => post r u.1 u.2) (wAt (dC, dI) vwCl [(cI, .int)] A (fun u : (Nat → Int32) × (Nat → Nat → Int32) => wd4 cI h ad u.1 u.2)) A) ([.ref h, .int p1] : List Value).toArray s 0 0 A) (F0 m 58 ls []))
      (fun (x2 : Int32) (x3 : Int32) (x4 : Int32) (x5 : Int32) (I : Nat → Int32) (R : Nat → Nat → Int32) => ∀ (H : Heap) (locs : List Loc) (ls : Array Slot), va_P (dC, dI) vwCl (wd4 cI h ad I R) H → va_D A (wd4 cI h ad I R) → va_S A s.heap H locs → lv_has ls 6 [(0, .ref h), (1, .int p1), (2, .int x2), (3, .int x3), (4, .int x4), (5, .int x5)] → W p l e (headSpec wsX4_late ({ frames := 3, cells := 0, slots := 0, locals := 84 } : Room)).room s m ([.ref h, .int p1] : List Value).toArray below meth c H locs 0 0 (MQ below (va_Qi (fun r (u : (Nat → Int32) × (Nat → Nat → Int32)) => post r u.1 u.2) (wAt (dC, dI) vwCl [(cI, .int)] A (fun u : (Nat → Int32) × (Nat → Nat → Int32) => wd4 cI h ad u.1 u.2)) A) ([.ref h, .int p1] : List Value).toArray s 0 0 A) (F0 m 188 ls []))
      (fun (x2 : Int32) (x3 : Int32) (x4 : Int32) (x5 : Int32) (k0 : Int32) (k1 : Int32) (I : Nat → Int32) (R : Nat → Nat → Int32) => ∀ (H : Heap) (locs : List Loc) (ls : Array Slot), va_P (dC, dI) vwCl (wd4 cI h ad I R) H → va_D A (wd4 cI h ad I R) → va_S A s.heap H locs → lv_has ls 6 [(0, .ref h), (1, .int p1), (2, .int x2), (3, .int x3), (4, .int x4), (5, .int x5)] → W p l e (headSpec wsX4_late ({ frames := 3, cells := 0, slots := 0, locals := 84 } : Room)).room s m ([.ref h, .int p1] : List Value).toArray below meth c H locs 0 0 (MQ below (va_Qi (fun r (u : (Nat → Int32) × (Nat → Nat → Int32)) => post r u.1 u.2) (wAt (dC, dI) vwCl [(cI, .int)] A (fun u : (Nat → Int32) × (Nat → Nat → Int32) => wd4 cI h ad u.1 u.2)) A) ([.ref h, .int p1] : List Value).toArray s 0 0 A) (F0 m 232 ls [.int k0, .int k1, .ref (ad 17)])) := by
    refine ⟨?_, ?_, ?_⟩
    · intro x2 x3 I R hq H locs ls hP hD hS hl
      refine lv_iload_n hx hb dX4_late_58 rfl (lv_at hl 3 rfl) ?_
      refine lv_iconst (v := (1 : Int32)) hx hb dX4_late_59 (by decide) ?_
      refine lv_aload_n hx hb dX4_late_60 rfl (lv_at hl 0 rfl) ?_
      refine va_get (D := (dC, dI)) (ci := 4) (v := .int (I 18)) (C := RX4) (T := TX4) (N := 27) hx hb hts nX4_late_X4 hown hK hP 0 rfl rfl 18 (by decide) (hts _ mX4_late_f114) (fun _ h9 => h9) rfl dX4_late_61 ?_
      refine lv_ishl hx hb dX4_late_64 ?_
      refine lv_icmp_ge (tgt := 115) hx hb dX4_late_65 (by decide) (fun hc => ?_) (fun hc => ?_)
      · have hq := hq.1 hc
        refine lv_iload_n hx hb dX4_late_115 rfl (lv_at hl 2 rfl) ?_
        refine lv_if_ne (tgt := 168) hx hb dX4_late_116 (by decide) (fun hc => ?_) (fun hc => ?_)
        · have hq := hq.1 hc
          refine lv_aload_n hx hb dX4_late_168 rfl (lv_at hl 0 rfl) ?_
          refine lv_aload_n hx hb dX4_late_169 rfl (lv_at hl 0 rfl) ?_
          refine lv_iload_n hx hb dX4_late_170 rfl (lv_at hl 2 rfl) ?_
          obtain ⟨Pc_4, hc, hq⟩ := hq
          refine w_calli (wf := fun _ : Unit => wd4 cI h ad I R) (va_runV (As := [.int x2]) (rest := [.ref h]) ⟨hx, hb, hml, hown, hts⟩ (tX4_on l dC dI cI h ad _ Pc_4 x2 I R hc) (cwV 1 hts gX4_late_X4_on rfl rfl rfl (by decide +kernel) ⟨Nat.le_of_ble_eq_true rfl, Nat.le_of_ble_eq_true rfl⟩) (wPreV hK hP hD (ci := 4) (q0 := 0) rfl rfl) rfl rfl hl.1 rfl (lv_room (Nat.le_of_ble_eq_true rfl)) dX4_late_171 ⟨Nat.le_of_ble_eq_true rfl, Nat.le_of_ble_eq_true rfl⟩) hD hS hA (fun rc_4 u H locs hp hP hD hS => ?_)
          have hq := hq rc_4 hp
          have hP : va_P (dC, dI) vwCl (wd4 cI h ad I R) H := hP
          have hD : va_D A (wd4 cI h ad I R) := hD
          refine lv_iconst (v := (1 : Int32)) hx hb dX4_late_174 (by decide) ?_
          refine lv_iload_n hx hb dX4_late_175 rfl (lv_at hl 1 rfl) ?_
          refine lv_ishl hx hb dX4_late_176 ?_
          refine lv_ior hx hb dX4_late_177 ?_
          obtain ⟨Pc_5, hc, hq⟩ := hq
          refine w_calli (wf := fun u : (Nat → Int32) × (Nat → Nat → Int32) => wd4 cI h ad u.1 u.2) (va_runV (As := [.int (rc_4 ||| ((1 : Int32) <<< (p1 &&& 31)))]) (rest := []) ⟨hx, hb, hml, hown, hts⟩ (tX4_layAll l dC dI cI h ad _ Pc_5 (rc_4 ||| ((1 : Int32) <<< (p1 &&& 31))) I R hc) (cwV 1 hts gX4_late_X4_layAll rfl rfl rfl (by decide +kernel) ⟨Nat.le_of_ble_eq_true rfl, Nat.le_of_ble_eq_true rfl⟩) (wPreV hK hP hD (ci := 4) (q0 := 0) rfl rfl) rfl rfl hl.1 rfl (lv_room (Nat.le_of_ble_eq_true rfl)) dX4_late_178 ⟨Nat.le_of_ble_eq_true rfl, Nat.le_of_ble_eq_true rfl⟩) hD hS hA (fun rc_5 u H locs hp hP hD hS => ?_)
          obtain ⟨Ic_5, Rc_5⟩ := u
          have hq := hq rc_5 Ic_5 Rc_5 hp
          have hP : va_P (dC, dI) vwCl (wd4 cI h ad Ic_5 Rc_5) H := hP
          have hD : va_D A (wd4 cI h ad Ic_5 Rc_5) := hD
          refine lv_istore_n (lv' := [(3, .int rc_5), (0, .ref h), (1, .int p1), (2, .int x2)]) hx hb dX4_late_181 rfl hl (by decide) rfl (fun ls hl => ?_)
          refine lv_iconst (v := (0 : Int32)) hx hb dX4_late_182 (by decide) ?_
          refine lv_istore (lv' := [(4, .int (0 : Int32)), (3, .int rc_5), (0, .ref h), (1, .int p1), (2, .int x2)]) hx hb dX4_late_183 hl (by decide) rfl (fun ls hl => ?_)
          refine lv_iconst (v := (0 : Int32)) hx hb dX4_late_185 (by decide) ?_
          refine lv_istore (lv' := [(5, .int (0 : Int32)), (4, .int (0 : Int32)), (3, .int rc_5), (0, .ref h), (1, .int p1), (2, .int x2)]) hx hb dX4_late_186 hl (by decide) rfl (fun ls hl => ?_)
          exact hq _ _ ls hP hD hS (lv_sub hl [3, 4, 5, 2, 1, 0] rfl)
        · have hq := hq.2 hc
          refine lv_aload_n hx hb dX4_late_119 rfl (lv_at hl 0 rfl) ?_
          refine va_get (D := (dC, dI)) (ci := 4) (v := .int (I 18)) (C := RX4) (T := TX4) (N := 27) hx hb hts nX4_late_X4 hown hK hP 0 rfl rfl 18 (by decide) (hts _ mX4_late_f114) (fun _ h9 => h9) rfl dX4_late_120 ?_
          refine lv_aload_n hx hb dX4_late_123 rfl (lv_at hl 0 rfl) ?_
          refine va_get (D := (dC, dI)) (ci := 4) (v := .int (I 15)) (C := RX4) (T := TX4) (N := 27) hx hb hts nX4_late_X4 hown hK hP 0 rfl rfl 15 (by decide) (hts _ mX4_late_f47) (fun _ h9 => h9) rfl dX4_late_124 ?_
          refine lv_icmp_lt (tgt := 132) hx hb dX4_late_127 (by decide) (fun hc => ?_) (fun hc => ?_)
          · have hq := hq.1 hc
            refine lv_aload_n hx hb dX4_late_132 rfl (lv_at hl 0 rfl) ?_
            refine va_get (D := (dC, dI)) (ci := 4) (v := .ref (ad 17)) (C := RX4) (T := TX4) (N := 27) hx hb hts nX4_late_X4 hown hK hP 0 rfl rfl 17 (by decide) (hts _ mX4_late_f50) (fun _ h9 => h9) rfl dX4_late_133 ?_
            refine lv_aload_n hx hb dX4_late_136 rfl (lv_at hl 0 rfl) ?_
            refine va_get (D := (dC, dI)) (ci := 4) (v := .int (I 18)) (C := RX4) (T := TX4) (N := 27) hx hb hts nX4_late_X4 hown hK hP 0 rfl rfl 18 (by decide) (hts _ mX4_late_f114) (fun _ h9 => h9) rfl dX4_late_137 ?_
            refine lv_iconst (v := (1 : Int32)) hx hb dX4_late_140 (by decide) ?_
            refine lv_iload_n hx hb dX4_late_141 rfl (lv_at hl 1 rfl) ?_
            refine lv_ishl hx hb dX4_late_142 ?_
            obtain ⟨hi_6, hq⟩ := hq
            refine va_iast (f := R 17) hx hb hK hP hD hS 11 0 rfl rfl hi_6 dX4_late_143 (fun H locs hP hD hS => ?_)
            rw [wd4_R17] at hP hD
            refine lv_aload_n hx hb dX4_late_144 rfl (lv_at hl 0 rfl) ?_
            refine lv_dup hx hb dX4_late_145 rfl ?_
            refine va_get (D := (dC, dI)) (ci := 4) (v := .int (I 18)) (C := RX4) (T := TX4) (N := 27) hx hb hts nX4_late_X4 hown hK hP 0 rfl rfl 18 (by decide) (hts _ mX4_late_f114) (fun _ h9 => h9) rfl dX4_late_146 ?_
            refine lv_iconst (v := (1 : Int32)) hx hb dX4_late_149 (by decide) ?_
            refine lv_iadd hx hb dX4_late_150 ?_
            refine va_put (D := (dC, dI)) (ci := 4) (v := .int ((I 18) + (1 : Int32))) (ty := .int) (C := RX4) (T := TX4) (N := 27) hx hb hts nX4_late_X4 tyX4 tyX4_ok nmX4 hown hK hP hD hS 0 rfl rfl 18 (by decide) (hts _ mX4_late_f114) (fun _ h9 => h9) rfl (by decide +kernel) rfl rfl (Nat.le_of_ble_eq_true rfl) dX4_late_151 (fun H locs hP hD hS => ?_)
            rw [wd4_I18] at hP hD
            refine lv_aload_n hx hb dX4_late_154 rfl (lv_at hl 0 rfl) ?_
            refine lv_dup hx hb dX4_late_155 rfl ?_
            refine va_get (D := (dC, dI)) (ci := 4) (v := .int (I 16)) (C := RX4) (T := TX4) (N := 27) hx hb hts nX4_late_X4 hown hK hP 0 rfl rfl 16 (by decide) (hts _ mX4_late_f108) (fun _ h9 => h9) rfl dX4_late_156 ?_
            refine lv_iconst (v := (1 : Int32)) hx hb dX4_late_159 (by decide) ?_
            refine lv_iload_n hx hb dX4_late_160 rfl (lv_at hl 1 rfl) ?_
            refine lv_ishl hx hb dX4_late_161 ?_
            refine lv_ior hx hb dX4_late_162 ?_
            refine va_put (D := (dC, dI)) (ci := 4) (v := .int ((I 16) ||| ((1 : Int32) <<< (p1 &&& 31)))) (ty := .int) (C := RX4) (T := TX4) (N := 27) hx hb hts nX4_late_X4 tyX4 tyX4_ok nmX4 hown hK hP hD hS 0 rfl rfl 16 (by decide) (hts _ mX4_late_f108) (fun _ h9 => h9) rfl (by decide +kernel) rfl rfl (Nat.le_of_ble_eq_true rfl) dX4_late_163 (fun H locs hP hD hS => ?_)
            rw [wd4_I16] at hP hD
            refine lv_iconst (v := (1 : Int32)) hx hb dX4_late_166 (by decide) ?_
            exact w_iret (post := fun r (u : (Nat → Int32) × (Nat → Nat → Int32)) => post r u.1 u.2) (wf := fun u : (Nat → Int32) × (Nat → Nat → Int32) => wd4 cI h ad u.1 u.2) (u := (va_up (va_up I 18 ((I 18) + (1 : Int32))) 16 ((I 16) ||| ((1 : Int32) <<< (p1 &&& 31))), va_up R 17 (upd (R 17) (I 18).toNatClampNeg ((1 : Int32) <<< (p1 &&& 31))))) hx hb hr hK hP hD hS hq dX4_late_167 hlocks
          · have hq := hq.2 hc
            refine lv_iconst (v := (-1 : Int32)) hx hb dX4_late_130 (by decide) ?_
            exact w_iret (post := fun r (u : (Nat → Int32) × (Nat → Nat → Int32)) => post r u.1 u.2) (wf := fun u : (Nat → Int32) × (Nat → Nat → Int32) => wd4 cI h ad u.1 u.2) (u := (I, R)) hx hb hr hK hP hD hS hq dX4_late_131 hlocks
      · have hq := hq.2 hc
        refine lv_aload_n hx hb dX4_late_68 rfl (lv_at hl 0 rfl) ?_
        refine va_get (D := (dC, dI)) (ci := 4) (v := .ref (ad 25)) (C := RX4) (T := TX4) (N := 27) hx hb hts nX4_late_X4 hown hK hP 0 rfl rfl 25 (by decide) (hts _ mX4_late_f65) (fun _ h9 => h9) rfl dX4_late_69 ?_
        refine lv_aload_n hx hb dX4_late_72 rfl (lv_at hl 0 rfl) ?_
        refine lv_iload_n hx hb dX4_late_73 rfl (lv_at hl 3 rfl) ?_
        obtain ⟨Pc_7, hc, hq⟩ := hq
        refine w_calli (wf := fun _ : Unit => wd4 cI h ad I R) (va_runV (As := [.int x3]) (rest := [.ref (ad 25)]) ⟨hx, hb, hml, hown, hts⟩ (tX4_on l dC dI cI h ad _ Pc_7 x3 I R hc) (cwV 1 hts gX4_late_X4_on rfl rfl rfl (by decide +kernel) ⟨Nat.le_of_ble_eq_true rfl, Nat.le_of_ble_eq_true rfl⟩) (wPreV hK hP hD (ci := 4) (q0 := 0) rfl rfl) rfl rfl hl.1 rfl (lv_room (Nat.le_of_ble_eq_true rfl)) dX4_late_74 ⟨Nat.le_of_ble_eq_true rfl, Nat.le_of_ble_eq_true rfl⟩) hD hS hA (fun rc_7 u H locs hp hP hD hS => ?_)
        have hq := hq rc_7 hp
        have hP : va_P (dC, dI) vwCl (wd4 cI h ad I R) H := hP
        have hD : va_D A (wd4 cI h ad I R) := hD
        refine lv_iconst (v := (1 : Int32)) hx hb dX4_late_77 (by decide) ?_
        refine lv_iload_n hx hb dX4_late_78 rfl (lv_at hl 1 rfl) ?_
        refine lv_ishl hx hb dX4_late_79 ?_
        refine lv_ior hx hb dX4_late_80 ?_
        obtain ⟨hi_8, hq⟩ := hq
        refine va_iald (f := R 25) hx hb hK hP 16 0 rfl rfl hi_8 dX4_late_81 ?_
        refine lv_iload_n hx hb dX4_late_82 rfl (lv_at hl 3 rfl) ?_
        obtain ⟨Pc_9, hc, hq⟩ := hq
        refine vp_callSi (W.runS (As := [.int x3]) (rest := [.int (R 25 (rc_7 ||| ((1 : Int32) <<< (p1 &&& 31))).toNatClampNeg)]) ⟨hx, hb, hml, hown, hts⟩ (tJ6_bitCount_0f7a4 l Pc_9 x3 hc) (va_cwS 1 hts gX4_late_J6_bitCount_0f7a4 rfl rfl rfl (by decide +kernel) ⟨Nat.le_of_ble_eq_true rfl, Nat.le_of_ble_eq_true rfl⟩) preEq rfl rfl hl.1 rfl (lv_room (Nat.le_of_ble_eq_true rfl)) dX4_late_83 ⟨Nat.le_of_ble_eq_true rfl, Nat.le_of_ble_eq_true rfl⟩) (fun rc_9 hp => ?_)
        have hq := hq rc_9 hp
        refine lv_icmp_le (tgt := 92) hx hb dX4_late_86 (by decide) (fun hc => ?_) (fun hc => ?_)
        · have hq := hq.1 hc
          refine lv_iload_n hx hb dX4_late_92 rfl (lv_at hl 2 rfl) ?_
          refine lv_if_eq (tgt := 107) hx hb dX4_late_93 (by decide) (fun hc => ?_) (fun hc => ?_)
          · have hq := hq.1 hc
            refine lv_iload_n hx hb dX4_late_107 rfl (lv_at hl 3 rfl) ?_
            refine lv_istore_n (lv' := [(2, .int x3), (0, .ref h), (1, .int p1), (3, .int x3)]) hx hb dX4_late_108 rfl hl (by decide) rfl (fun ls hl => ?_)
            refine lv_iinc (v := x3 + (1 : Int32)) (lv' := [(3, .int (x3 + (1 : Int32))), (2, .int x3), (0, .ref h), (1, .int p1)]) hx hb dX4_late_109 hl (k := 3) rfl rfl (by decide) rfl (fun ls hl => ?_)
            refine lv_goto (tgt := 58) hx hb dX4_late_112 (by decide) ?_
            exact hq _ _ ls hP hD hS (lv_sub hl [2, 3, 1, 0] rfl)
          · have hq := hq.2 hc
            refine lv_iload_n hx hb dX4_late_96 rfl (lv_at hl 3 rfl) ?_
            obtain ⟨Pc_10, hc, hq⟩ := hq
            refine vp_callSi (W.runS (As := [.int x3]) (rest := []) ⟨hx, hb, hml, hown, hts⟩ (tJ6_bitCount_0f7a4 l Pc_10 x3 hc) (va_cwS 1 hts gX4_late_J6_bitCount_0f7a4 rfl rfl rfl (by decide +kernel) ⟨Nat.le_of_ble_eq_true rfl, Nat.le_of_ble_eq_true rfl⟩) preEq rfl rfl hl.1 rfl (lv_room (Nat.le_of_ble_eq_true rfl)) dX4_late_97 ⟨Nat.le_of_ble_eq_true rfl, Nat.le_of_ble_eq_true rfl⟩) (fun rc_10 hp => ?_)
            have hq := hq rc_10 hp
            refine lv_iload_n hx hb dX4_late_100 rfl (lv_at hl 2 rfl) ?_
            obtain ⟨Pc_11, hc, hq⟩ := hq
            refine vp_callSi (W.runS (As := [.int x2]) (rest := [.int rc_10]) ⟨hx, hb, hml, hown, hts⟩ (tJ6_bitCount_0f7a4 l Pc_11 x2 hc) (va_cwS 1 hts gX4_late_J6_bitCount_0f7a4 rfl rfl rfl (by decide +kernel) ⟨Nat.le_of_ble_eq_true rfl, Nat.le_of_ble_eq_true rfl⟩) preEq rfl rfl hl.1 rfl (lv_room (Nat.le_of_ble_eq_true rfl)) dX4_late_101 ⟨Nat.le_of_ble_eq_true rfl, Nat.le_of_ble_eq_true rfl⟩) (fun rc_11 hp => ?_)
            have hq := hq rc_11 hp
            refine lv_icmp_ge (tgt := 109) hx hb dX4_late_104 (by decide) (fun hc => ?_) (fun hc => ?_)
            · have hq := hq.1 hc
              refine lv_iinc (v := x3 + (1 : Int32)) (lv' := [(3, .int (x3 + (1 : Int32))), (0, .ref h), (1, .int p1), (2, .int x2)]) hx hb dX4_late_109 hl (k := 3) rfl rfl (by decide) rfl (fun ls hl => ?_)
              refine lv_goto (tgt := 58) hx hb dX4_late_112 (by decide) ?_
              exact hq _ _ ls hP hD hS (lv_sub hl [1, 2, 3, 0] rfl)
            · have hq := hq.2 hc
              refine lv_iload_n hx hb dX4_late_107 rfl (lv_at hl 3 rfl) ?_
              refine lv_istore_n (lv' := [(2, .int x3), (0, .ref h), (1, .int p1), (3, .int x3)]) hx hb dX4_late_108 rfl hl (by decide) rfl (fun ls hl => ?_)
              refine lv_iinc (v := x3 + (1 : Int32)) (lv' := [(3, .int (x3 + (1 : Int32))), (2, .int x3), (0, .ref h), (1, .int p1)]) hx hb dX4_late_109 hl (k := 3) rfl rfl (by decide) rfl (fun ls hl => ?_)
              refine lv_goto (tgt := 58) hx hb dX4_late_112 (by decide) ?_
              exact hq _ _ ls hP hD hS (lv_sub hl [2, 3, 1, 0] rfl)
        · have hq := hq.2 hc
          refine lv_goto (tgt := 109) hx hb dX4_late_89 (by decide) ?_
          refine lv_iinc (v := x3 + (1 : Int32)) (lv' := [(3, .int (x3 + (1 : Int32))), (0, .ref h), (1, .int p1), (2, .int x2)]) hx hb dX4_late_109 hl (k := 3) rfl rfl (by decide) rfl (fun ls hl => ?_)
          refine lv_goto (tgt := 58) hx hb dX4_late_112 (by decide) ?_
          exact hq _ _ ls hP hD hS (lv_sub hl [1, 2, 3, 0] rfl)
    · intro x2 x3 x4 x5 I R hq H locs ls hP hD hS hl
      refine lv_iload hx hb dX4_late_188 (lv_at hl 5 rfl) ?_
      refine lv_aload_n hx hb dX4_late_190 rfl (lv_at hl 0 rfl) ?_
      refine va_get (D := (dC, dI)) (ci := 4) (v := .int (I 18)) (C := RX4) (T := TX4) (N := 27) hx hb hts nX4_late_X4 hown hK hP 0 rfl rfl 18 (by decide) (hts _ mX4_late_f114) (fun _ h9 => h9) rfl dX4_late_191 ?_
      refine lv_icmp_ge (tgt := 242) hx hb dX4_late_194 (by decide) (fun hc => ?_) (fun hc => ?_)
      · have hq := hq.1 hc
        refine lv_aload_n hx hb dX4_late_242 rfl (lv_at hl 0 rfl) ?_
        refine lv_dup hx hb dX4_late_243 rfl ?_
        refine va_get (D := (dC, dI)) (ci := 4) (v := .int (I 16)) (C := RX4) (T := TX4) (N := 27) hx hb hts nX4_late_X4 hown hK hP 0 rfl rfl 16 (by decide) (hts _ mX4_late_f108) (fun _ h9 => h9) rfl dX4_late_244 ?_
        refine lv_iconst (v := (1 : Int32)) hx hb dX4_late_247 (by decide) ?_
        refine lv_iload_n hx hb dX4_late_248 rfl (lv_at hl 1 rfl) ?_
        refine lv_ishl hx hb dX4_late_249 ?_
        refine lv_ior hx hb dX4_late_250 ?_
        refine va_put (D := (dC, dI)) (ci := 4) (v := .int ((I 16) ||| ((1 : Int32) <<< (p1 &&& 31)))) (ty := .int) (C := RX4) (T := TX4) (N := 27) hx hb hts nX4_late_X4 tyX4 tyX4_ok nmX4 hown hK hP hD hS 0 rfl rfl 16 (by decide) (hts _ mX4_late_f108) (fun _ h9 => h9) rfl (by decide +kernel) rfl rfl (Nat.le_of_ble_eq_true rfl) dX4_late_251 (fun H locs hP hD hS => ?_)
        rw [wd4_I16] at hP hD
        refine lv_iload_n hx hb dX4_late_254 rfl (lv_at hl 2 rfl) ?_
        obtain ⟨Pc_12, hc, hq⟩ := hq
        refine vp_callSi (W.runS (As := [.int x2]) (rest := []) ⟨hx, hb, hml, hown, hts⟩ (tJ6_bitCount_0f7a4 l Pc_12 x2 hc) (va_cwS 1 hts gX4_late_J6_bitCount_0f7a4 rfl rfl rfl (by decide +kernel) ⟨Nat.le_of_ble_eq_true rfl, Nat.le_of_ble_eq_true rfl⟩) preEq rfl rfl hl.1 rfl (lv_room (Nat.le_of_ble_eq_true rfl)) dX4_late_255 ⟨Nat.le_of_ble_eq_true rfl, Nat.le_of_ble_eq_true rfl⟩) (fun rc_12 hp => ?_)
        have hq := hq rc_12 hp
        exact w_iret (post := fun r (u : (Nat → Int32) × (Nat → Nat → Int32)) => post r u.1 u.2) (wf := fun u : (Nat → Int32) × (Nat → Nat → Int32) => wd4 cI h ad u.1 u.2) (u := (va_up I 16 ((I 16) ||| ((1 : Int32) <<< (p1 &&& 31))), R)) hx hb hr hK hP hD hS hq dX4_late_258 hlocks
      · have hq := hq.2 hc
        refine lv_iload_n hx hb dX4_late_197 rfl (lv_at hl 2 rfl) ?_
        refine lv_iload hx hb dX4_late_198 (lv_at hl 5 rfl) ?_
        refine lv_ishr hx hb dX4_late_200 ?_
        refine lv_iconst (v := (1 : Int32)) hx hb dX4_late_201 (by decide) ?_
        refine lv_iand hx hb dX4_late_202 ?_
        refine lv_if_ne (tgt := 209) hx hb dX4_late_203 (by decide) (fun hc => ?_) (fun hc => ?_)
        · have hq := hq.1 hc
          refine lv_aload_n hx hb dX4_late_209 rfl (lv_at hl 0 rfl) ?_
          refine va_get (D := (dC, dI)) (ci := 4) (v := .ref (ad 17)) (C := RX4) (T := TX4) (N := 27) hx hb hts nX4_late_X4 hown hK hP 0 rfl rfl 17 (by decide) (hts _ mX4_late_f50) (fun _ h9 => h9) rfl dX4_late_210 ?_
          refine lv_iload hx hb dX4_late_213 (lv_at hl 5 rfl) ?_
          refine lv_iload hx hb dX4_late_215 (lv_at hl 4 rfl) ?_
          refine lv_iload_n hx hb dX4_late_217 rfl (lv_at hl 3 rfl) ?_
          refine lv_icmp_ge (tgt := 231) hx hb dX4_late_218 (by decide) (fun hc => ?_) (fun hc => ?_)
          · have hq := hq.1 hc
            refine lv_iconst (v := (0 : Int32)) hx hb dX4_late_231 (by decide) ?_
            exact hq _ _ ls hP hD hS (lv_sub hl [0, 1, 2, 3, 4, 5] rfl)
          · have hq := hq.2 hc
            refine lv_aload_n hx hb dX4_late_221 rfl (lv_at hl 0 rfl) ?_
            refine va_get (D := (dC, dI)) (ci := 4) (v := .ref (ad 26)) (C := RX4) (T := TX4) (N := 27) hx hb hts nX4_late_X4 hown hK hP 0 rfl rfl 26 (by decide) (hts _ mX4_late_f68) (fun _ h9 => h9) rfl dX4_late_222 ?_
            refine lv_iload hx hb dX4_late_225 (lv_at hl 4 rfl) ?_
            obtain ⟨hi_13, hq⟩ := hq
            refine va_iald (f := R 26) hx hb hK hP 17 0 rfl rfl hi_13 dX4_late_227 ?_
            refine lv_goto (tgt := 232) hx hb dX4_late_228 (by decide) ?_
            exact hq _ _ ls hP hD hS (lv_sub hl [0, 1, 2, 3, 4, 5] rfl)
        · have hq := hq.2 hc
          refine lv_goto (tgt := 236) hx hb dX4_late_206 (by decide) ?_
          refine lv_iinc (v := x5 + (1 : Int32)) (lv' := [(5, .int (x5 + (1 : Int32))), (0, .ref h), (1, .int p1), (2, .int x2), (3, .int x3), (4, .int x4)]) hx hb dX4_late_236 hl (k := 5) rfl rfl (by decide) rfl (fun ls hl => ?_)
          refine lv_goto (tgt := 188) hx hb dX4_late_239 (by decide) ?_
          exact hq _ _ ls hP hD hS (lv_sub hl [1, 2, 3, 4, 5, 0] rfl)
    · intro x2 x3 x4 x5 k0 k1 I R hq H locs ls hP hD hS hl
      obtain ⟨hi_14, hq⟩ := hq
      refine va_iast (f := R 17) hx hb hK hP hD hS 11 0 rfl rfl hi_14 dX4_late_232 (fun H locs hP hD hS => ?_)
      rw [wd4_R17] at hP hD
      refine lv_iinc (v := x4 + (1 : Int32)) (lv' := [(4, .int (x4 + (1 : Int32))), (0, .ref h), (1, .int p1), (2, .int x2), (3, .int x3), (5, .int x5)]) hx hb dX4_late_233 hl (k := 4) rfl rfl (by decide) rfl (fun ls hl => ?_)
      refine lv_iinc (v := x5 + (1 : Int32)) (lv' := [(5, .int (x5 + (1 : Int32))), (4, .int (x4 + (1 : Int32))), (0, .ref h), (1, .int p1), (2, .int x2), (3, .int x3)]) hx hb dX4_late_236 hl (k := 5) rfl rfl (by decide) rfl (fun ls hl => ?_)
      refine lv_goto (tgt := 188) hx hb dX4_late_239 (by decide) ?_
      exact hq _ _ ls hP hD hS (lv_sub hl [2, 3, 4, 5, 1, 0] rfl)
  have hl := lv_entry ([.ref h, .int p1]) (n := 6) (Nat.le_of_ble_eq_true rfl)
  rw [lg_entry_eq]
  generalize (lg_sl ([.ref h, .int p1]) ++ List.replicate (6 - (lg_sl ([.ref h, .int p1])).length) Slot.unset).toArray = ls at hl ⊢
  have hl : lv_has ls 6 [(0, .ref h), (1, .int p1)] := hl
  refine lv_aload_n hx hb dX4_late_0 rfl (lv_at hl 0 rfl) ?_
  refine lv_iconst (v := (0 : Int32)) hx hb dX4_late_1 (by decide) ?_
  refine va_put (D := (dC, dI)) (ci := 4) (v := .int (0 : Int32)) (ty := .int) (C := RX4) (T := TX4) (N := 27) hx hb hts nX4_late_X4 tyX4 tyX4_ok nmX4 hown hK hP hD hS 0 rfl rfl 19 (by decide) (hts _ mX4_late_f71) (fun _ h9 => h9) rfl (by decide +kernel) rfl rfl (Nat.le_of_ble_eq_true rfl) dX4_late_2 (fun H locs hP hD hS => ?_)
  rw [wd4_I19] at hP hD
  refine lv_aload_n hx hb dX4_late_5 rfl (lv_at hl 0 rfl) ?_
  refine lv_iload_n hx hb dX4_late_6 rfl (lv_at hl 1 rfl) ?_
  obtain ⟨Pc_1, hc, hq⟩ := hq
  refine w_calli (wf := fun _ : Unit => wd4 cI h ad (va_up I 19 (0 : Int32)) R) (va_runV (As := [.int p1]) (rest := []) ⟨hx, hb, hml, hown, hts⟩ (tX4_isPicture l dC dI cI h ad _ Pc_1 p1 (va_up I 19 (0 : Int32)) R hc) (cwV 1 hts gX4_late_X4_isPicture rfl rfl rfl (by decide +kernel) ⟨Nat.le_of_ble_eq_true rfl, Nat.le_of_ble_eq_true rfl⟩) (wPreV hK hP hD (ci := 4) (q0 := 0) rfl rfl) rfl rfl hl.1 rfl (lv_room (Nat.le_of_ble_eq_true rfl)) dX4_late_7 ⟨Nat.le_of_ble_eq_true rfl, Nat.le_of_ble_eq_true rfl⟩) hD hS hA (fun rc_1 u H locs hp hP hD hS => ?_)
  have hq := hq rc_1 hp
  have hP : va_P (dC, dI) vwCl (wd4 cI h ad (va_up I 19 (0 : Int32)) R) H := hP
  have hD : va_D A (wd4 cI h ad (va_up I 19 (0 : Int32)) R) := hD
  refine lv_if_eq (tgt := 32) hx hb dX4_late_10 (by decide) (fun hc => ?_) (fun hc => ?_)
  · have hq := hq.1 hc
    refine lv_iconst (v := (-1 : Int32)) hx hb dX4_late_32 (by decide) ?_
    exact w_iret (post := fun r (u : (Nat → Int32) × (Nat → Nat → Int32)) => post r u.1 u.2) (wf := fun u : (Nat → Int32) × (Nat → Nat → Int32) => wd4 cI h ad u.1 u.2) (u := (va_up I 19 (0 : Int32), R)) hx hb hr hK hP hD hS hq dX4_late_33 hlocks
  · have hq := hq.2 hc
    refine lv_aload_n hx hb dX4_late_13 rfl (lv_at hl 0 rfl) ?_
    refine va_get (D := (dC, dI)) (ci := 4) (v := .int (I 16)) (C := RX4) (T := TX4) (N := 27) hx hb hts nX4_late_X4 hown hK hP 0 rfl rfl 16 (by decide) (hts _ mX4_late_f108) (fun _ h9 => h9) rfl dX4_late_14 ?_
    refine lv_iload_n hx hb dX4_late_17 rfl (lv_at hl 1 rfl) ?_
    refine lv_ishr hx hb dX4_late_18 ?_
    refine lv_iconst (v := (1 : Int32)) hx hb dX4_late_19 (by decide) ?_
    refine lv_iand hx hb dX4_late_20 ?_
    refine lv_iconst (v := (1 : Int32)) hx hb dX4_late_21 (by decide) ?_
    refine lv_icmp_eq (tgt := 32) hx hb dX4_late_22 (by decide) (fun hc => ?_) (fun hc => ?_)
    · have hq := hq.1 hc
      refine lv_iconst (v := (-1 : Int32)) hx hb dX4_late_32 (by decide) ?_
      exact w_iret (post := fun r (u : (Nat → Int32) × (Nat → Nat → Int32)) => post r u.1 u.2) (wf := fun u : (Nat → Int32) × (Nat → Nat → Int32) => wd4 cI h ad u.1 u.2) (u := (va_up I 19 (0 : Int32), R)) hx hb hr hK hP hD hS hq dX4_late_33 hlocks
    · have hq := hq.2 hc
      refine lv_aload_n hx hb dX4_late_25 rfl (lv_at hl 0 rfl) ?_
      refine va_get (D := (dC, dI)) (ci := 4) (v := .int (I 18)) (C := RX4) (T := TX4) (N := 27) hx hb hts nX4_late_X4 hown hK hP 0 rfl rfl 18 (by decide) (hts _ mX4_late_f114) (fun _ h9 => h9) rfl dX4_late_26 ?_
      refine lv_if_ne (tgt := 34) hx hb dX4_late_29 (by decide) (fun hc => ?_) (fun hc => ?_)
      · have hq := hq.1 hc
        refine lv_aload_n hx hb dX4_late_34 rfl (lv_at hl 0 rfl) ?_
        refine lv_aload_n hx hb dX4_late_35 rfl (lv_at hl 0 rfl) ?_
        refine lv_iconst (v := (1 : Int32)) hx hb dX4_late_36 (by decide) ?_
        refine lv_aload_n hx hb dX4_late_37 rfl (lv_at hl 0 rfl) ?_
        refine va_get (D := (dC, dI)) (ci := 4) (v := .int (I 18)) (C := RX4) (T := TX4) (N := 27) hx hb hts nX4_late_X4 hown hK hP 0 rfl rfl 18 (by decide) (hts _ mX4_late_f114) (fun _ h9 => h9) rfl dX4_late_38 ?_
        refine lv_ishl hx hb dX4_late_41 ?_
        refine lv_iconst (v := (1 : Int32)) hx hb dX4_late_42 (by decide) ?_
        refine lv_isub hx hb dX4_late_43 ?_
        obtain ⟨Pc_2, hc, hq⟩ := hq
        refine w_calli (wf := fun _ : Unit => wd4 cI h ad (va_up I 19 (0 : Int32)) R) (va_runV (As := [.int (((1 : Int32) <<< ((I 18) &&& 31)) - (1 : Int32))]) (rest := [.ref h]) ⟨hx, hb, hml, hown, hts⟩ (tX4_on l dC dI cI h ad _ Pc_2 (((1 : Int32) <<< ((I 18) &&& 31)) - (1 : Int32)) (va_up I 19 (0 : Int32)) R hc) (cwV 1 hts gX4_late_X4_on rfl rfl rfl (by decide +kernel) ⟨Nat.le_of_ble_eq_true rfl, Nat.le_of_ble_eq_true rfl⟩) (wPreV hK hP hD (ci := 4) (q0 := 0) rfl rfl) rfl rfl hl.1 rfl (lv_room (Nat.le_of_ble_eq_true rfl)) dX4_late_44 ⟨Nat.le_of_ble_eq_true rfl, Nat.le_of_ble_eq_true rfl⟩) hD hS hA (fun rc_2 u H locs hp hP hD hS => ?_)
        have hq := hq rc_2 hp
        have hP : va_P (dC, dI) vwCl (wd4 cI h ad (va_up I 19 (0 : Int32)) R) H := hP
        have hD : va_D A (wd4 cI h ad (va_up I 19 (0 : Int32)) R) := hD
        refine lv_iconst (v := (1 : Int32)) hx hb dX4_late_47 (by decide) ?_
        refine lv_iload_n hx hb dX4_late_48 rfl (lv_at hl 1 rfl) ?_
        refine lv_ishl hx hb dX4_late_49 ?_
        refine lv_ior hx hb dX4_late_50 ?_
        obtain ⟨Pc_3, hc, hq⟩ := hq
        refine w_callv (wf := fun u : (Nat → Int32) × (Nat → Nat → Int32) => wd4 cI h ad u.1 u.2) (va_runV (As := [.int (rc_2 ||| ((1 : Int32) <<< (p1 &&& 31)))]) (rest := []) ⟨hx, hb, hml, hown, hts⟩ (tX4_pack l dC dI cI h ad _ Pc_3 (rc_2 ||| ((1 : Int32) <<< (p1 &&& 31))) (va_up I 19 (0 : Int32)) R hc) (cwV 1 hts gX4_late_X4_pack rfl rfl rfl (by decide +kernel) ⟨Nat.le_of_ble_eq_true rfl, Nat.le_of_ble_eq_true rfl⟩) (wPreV hK hP hD (ci := 4) (q0 := 0) rfl rfl) rfl rfl hl.1 rfl (lv_room (Nat.le_of_ble_eq_true rfl)) dX4_late_51 ⟨Nat.le_of_ble_eq_true rfl, Nat.le_of_ble_eq_true rfl⟩) hD hS hA (fun u H locs hp hP hD hS => ?_)
        obtain ⟨Ic_3, Rc_3⟩ := u
        have hq := hq Ic_3 Rc_3 hp
        have hP : va_P (dC, dI) vwCl (wd4 cI h ad Ic_3 Rc_3) H := hP
        have hD : va_D A (wd4 cI h ad Ic_3 Rc_3) := hD
        refine lv_iconst (v := (0 : Int32)) hx hb dX4_late_54 (by decide) ?_
        refine lv_istore_n (lv' := [(2, .int (0 : Int32)), (0, .ref h), (1, .int p1)]) hx hb dX4_late_55 rfl hl (by decide) rfl (fun ls hl => ?_)
        refine lv_iconst (v := (1 : Int32)) hx hb dX4_late_56 (by decide) ?_
        refine lv_istore_n (lv' := [(3, .int (1 : Int32)), (2, .int (0 : Int32)), (0, .ref h), (1, .int p1)]) hx hb dX4_late_57 rfl hl (by decide) rfl (fun ls hl => ?_)
        exact hq _ _ _ hZ _ _ ls hP hD hS (lv_sub hl [2, 3, 1, 0] rfl)
      · have hq := hq.2 hc
        refine lv_iconst (v := (-1 : Int32)) hx hb dX4_late_32 (by decide) ?_
        exact w_iret (post := fun r (u : (Nat → Int32) × (Nat → Nat → Int32)) => post r u.1 u.2) (wf := fun u : (Nat → Int32) × (Nat → Nat → Int32) => wd4 cI h ad u.1 u.2) (u := (va_up I 19 (0 : Int32), R)) hx hb hr hK hP hD hS hq dX4_late_33 hlocks
