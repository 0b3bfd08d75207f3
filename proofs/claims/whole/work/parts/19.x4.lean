def zX4_shown (post : Int32 → (Nat → Int32) → (Nat → Nat → Int32) → Prop) (X4 : Int32 → Int32 → (Nat → Int32) → (Nat → Nat → Int32) → Prop) : Prop :=
  (∀ (x1 : Int32) (x2 : Int32) (I : Nat → Int32) (R : Nat → Nat → Int32), ((((I 11) ≤ x2) → (post x1 I R)) ∧ ((¬ (I 11) ≤ x2) → (∃ Pc_1 : Int32 → (Nat → Int32) → (Nat → Nat → Int32) → Prop, qX4_seenIn Pc_1 x2 I R ∧ (∀ (rc_1 : Int32) (Ic_1 : Nat → Int32) (Rc_1 : Nat → Nat → Int32), Pc_1 rc_1 Ic_1 Rc_1 → (∀ x1_2 : Int32, x1_2 = x1 ||| rc_1 → (X4 x1_2 (x2 + (1 : Int32)) Ic_1 Rc_1)))))) → X4 x1 x2 I R)
def qX4_shown_4 (post : Int32 → (Nat → Int32) → (Nat → Nat → Int32) → Prop) (x1 : Int32) (x2 : Int32) (I : Nat → Int32) (R : Nat → Nat → Int32) : Prop := ∀ (X4 : Int32 → Int32 → (Nat → Int32) → (Nat → Nat → Int32) → Prop), zX4_shown post X4 → X4 x1 x2 I R
theorem kX4_shown_4 {post : Int32 → (Nat → Int32) → (Nat → Nat → Int32) → Prop} {x1 : Int32} {x2 : Int32} {I : Nat → Int32} {R : Nat → Nat → Int32} (h : (((I 11) ≤ x2) → (post x1 I R)) ∧ ((¬ (I 11) ≤ x2) → (∃ Pc_1 : Int32 → (Nat → Int32) → (Nat → Nat → Int32) → Prop, qX4_seenIn Pc_1 x2 I R ∧ (∀ (rc_1 : Int32) (Ic_1 : Nat → Int32) (Rc_1 : Nat → Nat → Int32), Pc_1 rc_1 Ic_1 Rc_1 → (∀ x1_2 : Int32, x1_2 = x1 ||| rc_1 → (qX4_shown_4 post x1_2 (x2 + (1 : Int32)) Ic_1 Rc_1)))))) : qX4_shown_4 post x1 x2 I R := by
  intro Z4 hcl
  refine hcl x1 x2 I R ?_
  refine ⟨fun c => ?_, fun c => ?_⟩
  · have h := h.1 c
    exact h
  · have h := h.2 c
    obtain ⟨P, h1, h2⟩ := h
    refine ⟨P, h1, fun b0 b1 b2 hp => ?_⟩
    have h := h2 b0 b1 b2 hp
    intro x e
    have h := h x e
    exact h _ hcl
def qX4_shown (post : Int32 → (Nat → Int32) → (Nat → Nat → Int32) → Prop) (I : Nat → Int32) (R : Nat → Nat → Int32) : Prop := qX4_shown_4 post (0 : Int32) (0 : Int32) I R
theorem mX4_shown_f74 : Cond.fieldLink RX4 74 "YearBookModel" "pictures" "I" ∈ wsX4_shown := by decide +kernel
theorem nX4_shown_X4 : ∀ w ∈ u_ws RX4 TX4 27, w ∈ wsX4_shown := by decide +kernel
set_option maxHeartbeats 4000000 in
set_option maxRecDepth 100000 in
theorem tX4_shown (l : Launch) (dC : Nat → ClassId) (dI : Nat → Nat → Nat) (cI : ClassId) (h : Nat) (ad : Nat → Nat)  (sz : Nat) (post : Int32 → (Nat → Int32) → (Nat → Nat → Int32) → Prop) (I : Nat → Int32) (R : Nat → Nat → Int32) (hq : qX4_shown post I R) : Met l yX4_shown wsX4_shown ({ frames := 4, cells := 0, slots := 0, locals := 97 } : Room) (va_Pc [.ref h] (wPre (dC, dI) vwCl [(cI, .int)] (wd4 cI h ad I R) sz)) (va_Qi (fun r (u : (Nat → Int32) × (Nat → Nat → Int32)) => post r u.1 u.2) (wAt (dC, dI) vwCl [(cI, .int)] (va_A (wd4 cI h ad I R) sz) (fun u : (Nat → Int32) × (Nat → Nat → Int32) => wd4 cI h ad u.1 u.2)) (va_A (wd4 cI h ad I R) sz)) 0 0 (va_A (wd4 cI h ad I R) sz) := by
  unfold qX4_shown at hq
  refine Met.ofW (cc := cX4_shown) (maxL := 3) (ret := (some .int)) (by decide) rfl ?_
  intro p e s m args below meth c s₁ B hml hv
  obtain ⟨rfl, hsz, hP, hK, hD0⟩ := hv
  have hx := B.exec
  have hb := B.bytes
  have hr := B.returns
  have hts := atoms_spec (ws := wsX4_shown) B.pre
  have hown : s.vm.findClass RX4 = some m.cls := findClass_of_methodNamed B.named
  have hlocks := B.notSynchronized
  subst hsz
  have hD := hD0.self (sz := s.heap.size)
  generalize hAe : va_A (wd4 cI h ad I R) s.heap.size = A at hD ⊢
  have hA : ∀ q : Nat, s.heap.size ≤ q → A q := fun q h => by rw [← hAe]; exact Or.inr h
  have hS : va_S A s.heap s.heap [] := va_S.rf
  have hZ : zX4_shown post
      (fun (x1 : Int32) (x2 : Int32) (I : Nat → Int32) (R : Nat → Nat → Int32) => ∀ (H : Heap) (locs : List Loc) (ls : Array Slot), va_P (dC, dI) vwCl (wd4 cI h ad I R) H → va_D A (wd4 cI h ad I R) → va_S A s.heap H locs → lv_has ls 3 [(0, .ref h), (1, .int x1), (2, .int x2)] → W p l e (headSpec wsX4_shown ({ frames := 4, cells := 0, slots := 0, locals := 97 } : Room)).room s m ([.ref h] : List Value).toArray below meth c H locs 0 0 (MQ below (va_Qi (fun r (u : (Nat → Int32) × (Nat → Nat → Int32)) => post r u.1 u.2) (wAt (dC, dI) vwCl [(cI, .int)] A (fun u : (Nat → Int32) × (Nat → Nat → Int32) => wd4 cI h ad u.1 u.2)) A) ([.ref h] : List Value).toArray s 0 0 A) (F0 m 4 ls [])) := by
    unfold zX4_shown
    intro x1 x2 I R hq H locs ls hP hD hS hl
    refine lv_iload_n hx hb dX4_shown_4 rfl (lv_at hl 2 rfl) ?_
    refine lv_aload_n hx hb dX4_shown_5 rfl (lv_at hl 0 rfl) ?_
    refine va_get (D := (dC, dI)) (ci := 4) (v := .int (I 11)) (C := RX4) (T := TX4) (N := 27) hx hb hts nX4_shown_X4 hown hK hP 0 rfl rfl 11 (by decide) (hts _ mX4_shown_f74) (fun _ h9 => h9) rfl dX4_shown_6 ?_
    refine lv_icmp_ge (tgt := 26) hx hb dX4_shown_9 (by decide) (fun hc => ?_) (fun hc => ?_)
    · have hq := hq.1 hc
      refine lv_iload_n hx hb dX4_shown_26 rfl (lv_at hl 1 rfl) ?_
      exact w_iret (post := fun r (u : (Nat → Int32) × (Nat → Nat → Int32)) => post r u.1 u.2) (wf := fun u : (Nat → Int32) × (Nat → Nat → Int32) => wd4 cI h ad u.1 u.2) (u := (I, R)) hx hb hr hK hP hD hS hq dX4_shown_27 hlocks
    · have hq := hq.2 hc
      refine lv_iload_n hx hb dX4_shown_12 rfl (lv_at hl 1 rfl) ?_
      refine lv_aload_n hx hb dX4_shown_13 rfl (lv_at hl 0 rfl) ?_
      refine lv_iload_n hx hb dX4_shown_14 rfl (lv_at hl 2 rfl) ?_
      obtain ⟨Pc_1, hc, hq⟩ := hq
      refine w_calli (wf := fun u : (Nat → Int32) × (Nat → Nat → Int32) => wd4 cI h ad u.1 u.2) (va_runV (As := [.int x2]) (rest := [.int x1]) ⟨hx, hb, hml, hown, hts⟩ (tX4_seenIn l dC dI cI h ad _ Pc_1 x2 I R hc) (cwV 1 hts gX4_shown_X4_seenIn rfl rfl rfl (by decide +kernel) ⟨Nat.le_of_ble_eq_true rfl, Nat.le_of_ble_eq_true rfl⟩) (wPreV hK hP hD (ci := 4) (q0 := 0) rfl rfl) rfl rfl hl.1 rfl (lv_room (Nat.le_of_ble_eq_true rfl)) dX4_shown_15 ⟨Nat.le_of_ble_eq_true rfl, Nat.le_of_ble_eq_true rfl⟩) hD hS hA (fun rc_1 u H locs hp hP hD hS => ?_)
      obtain ⟨Ic_1, Rc_1⟩ := u
      have hq := hq rc_1 Ic_1 Rc_1 hp
      have hP : va_P (dC, dI) vwCl (wd4 cI h ad Ic_1 Rc_1) H := hP
      have hD : va_D A (wd4 cI h ad Ic_1 Rc_1) := hD
      refine lv_ior hx hb dX4_shown_18 ?_
      refine lv_topi (fun x1_2 ex1_2 => ?_)
      have hq := hq x1_2 ex1_2
      refine lv_istore_n (lv' := [(1, .int x1_2), (0, .ref h), (2, .int x2)]) hx hb dX4_shown_19 rfl hl (by decide) rfl (fun ls hl => ?_)
      refine lv_iinc (v := x2 + (1 : Int32)) (lv' := [(2, .int (x2 + (1 : Int32))), (1, .int x1_2), (0, .ref h)]) hx hb dX4_shown_20 hl (k := 2) rfl rfl (by decide) rfl (fun ls hl => ?_)
      refine lv_goto (tgt := 4) hx hb dX4_shown_23 (by decide) ?_
      exact hq _ _ ls hP hD hS (lv_sub hl [2, 1, 0] rfl)
  have hl := lv_entry ([.ref h]) (n := 3) (Nat.le_of_ble_eq_true rfl)
  rw [lg_entry_eq]
  generalize (lg_sl ([.ref h]) ++ List.replicate (3 - (lg_sl ([.ref h])).length) Slot.unset).toArray = ls at hl ⊢
  have hl : lv_has ls 3 [(0, .ref h)] := hl
  refine lv_iconst (v := (0 : Int32)) hx hb dX4_shown_0 (by decide) ?_
  refine lv_istore_n (lv' := [(1, .int (0 : Int32)), (0, .ref h)]) hx hb dX4_shown_1 rfl hl (by decide) rfl (fun ls hl => ?_)
  refine lv_iconst (v := (0 : Int32)) hx hb dX4_shown_2 (by decide) ?_
  refine lv_istore_n (lv' := [(2, .int (0 : Int32)), (1, .int (0 : Int32)), (0, .ref h)]) hx hb dX4_shown_3 rfl hl (by decide) rfl (fun ls hl => ?_)
  exact hq _ hZ _ _ ls hP hD hS (lv_sub hl [2, 1, 0] rfl)
def qX4_count (post : Int32 → (Nat → Int32) → (Nat → Nat → Int32) → Prop) (p1 : Int32) (I : Nat → Int32) (R : Nat → Nat → Int32) : Prop := ((p1.toInt < 0 ∨ 6 < p1.toInt) → (post (-1 : Int32) (va_up I 19 (0 : Int32)) R)) ∧ ((p1 = (0 : Int32)) → (post (I 2) (va_up I 19 (0 : Int32)) R)) ∧ ((p1 = (1 : Int32)) → (post (I 11) (va_up I 19 (0 : Int32)) R)) ∧ ((p1 = (2 : Int32)) → (post (I 16) (va_up I 19 (0 : Int32)) R)) ∧ ((p1 = (3 : Int32)) → (∃ Pc_1 : Int32 → Prop, qX4_sum Pc_1 (I 16) (va_up I 19 (0 : Int32)) R ∧ (∀ (rc_1 : Int32), Pc_1 rc_1 → (post rc_1 (va_up I 19 (0 : Int32)) R)))) ∧ ((p1 = (4 : Int32)) → (post (I 18) (va_up I 19 (0 : Int32)) R)) ∧ ((p1 = (5 : Int32)) → (∃ Pc_2 : Int32 → (Nat → Int32) → (Nat → Nat → Int32) → Prop, qX4_good Pc_2  (va_up I 19 (0 : Int32)) R ∧ (∀ (rc_2 : Int32) (Ic_2 : Nat → Int32) (Rc_2 : Nat → Nat → Int32), Pc_2 rc_2 Ic_2 Rc_2 → (post rc_2 Ic_2 Rc_2)))) ∧ ((p1 = (6 : Int32)) → (∃ Pc_3 : Int32 → (Nat → Int32) → (Nat → Nat → Int32) → Prop, qX4_shown Pc_3  (va_up I 19 (0 : Int32)) R ∧ (∀ (rc_3 : Int32) (Ic_3 : Nat → Int32) (Rc_3 : Nat → Nat → Int32), Pc_3 rc_3 Ic_3 Rc_3 → (post rc_3 Ic_3 Rc_3))))
theorem mX4_count_f71 : Cond.fieldLink RX4 71 "YearBookModel" "thrown" "I" ∈ wsX4_count := by decide +kernel
theorem nX4_count_X4 : ∀ w ∈ u_ws RX4 TX4 27, w ∈ wsX4_count := by decide +kernel
theorem mX4_count_f81 : Cond.fieldLink RX4 81 "YearBookModel" "children" "I" ∈ wsX4_count := by decide +kernel
theorem mX4_count_f74 : Cond.fieldLink RX4 74 "YearBookModel" "pictures" "I" ∈ wsX4_count := by decide +kernel
theorem mX4_count_f108 : Cond.fieldLink RX4 108 "YearBookModel" "choice" "I" ∈ wsX4_count := by decide +kernel
theorem mX4_count_f114 : Cond.fieldLink RX4 114 "YearBookModel" "pageMany" "I" ∈ wsX4_count := by decide +kernel
set_option maxHeartbeats 4000000 in
set_option maxRecDepth 100000 in
theorem tX4_count (l : Launch) (dC : Nat → ClassId) (dI : Nat → Nat → Nat) (cI : ClassId) (h : Nat) (ad : Nat → Nat)  (sz : Nat) (post : Int32 → (Nat → Int32) → (Nat → Nat → Int32) → Prop) (p1 : Int32) (I : Nat → Int32) (R : Nat → Nat → Int32) (hq : qX4_count post p1 I R) : Met l yX4_count wsX4_count ({ frames := 5, cells := 0, slots := 0, locals := 119 } : Room) (va_Pc [.ref h, .int p1] (wPre (dC, dI) vwCl [(cI, .int)] (wd4 cI h ad I R) sz)) (va_Qi (fun r (u : (Nat → Int32) × (Nat → Nat → Int32)) => post r u.1 u.2) (wAt (dC, dI) vwCl [(cI, .int)] (va_A (wd4 cI h ad I R) sz) (fun u : (Nat → Int32) × (Nat → Nat → Int32) => wd4 cI h ad u.1 u.2)) (va_A (wd4 cI h ad I R) sz)) 0 0 (va_A (wd4 cI h ad I R) sz) := by
  unfold qX4_count at hq
  refine Met.ofW (cc := cX4_count) (maxL := 2) (ret := (some .int)) (by decide) rfl ?_
  intro p e s m args below meth c s₁ B hml hv
  obtain ⟨rfl, hsz, hP, hK, hD0⟩ := hv
  have hx := B.exec
  have hb := B.bytes
  have hr := B.returns
  have hts := atoms_spec (ws := wsX4_count) B.pre
  have hown : s.vm.findClass RX4 = some m.cls := findClass_of_methodNamed B.named
  have hlocks := B.notSynchronized
  subst hsz
  have hD := hD0.self (sz := s.heap.size)
  generalize hAe : va_A (wd4 cI h ad I R) s.heap.size = A at hD ⊢
  have hA : ∀ q : Nat, s.heap.size ≤ q → A q := fun q h => by rw [← hAe]; exact Or.inr h
  have hS : va_S A s.heap s.heap [] := va_S.rf
  have hl := lv_entry ([.ref h, .int p1]) (n := 2) (Nat.le_of_ble_eq_true rfl)
  rw [lg_entry_eq]
  generalize (lg_sl ([.ref h, .int p1]) ++ List.replicate (2 - (lg_sl ([.ref h, .int p1])).length) Slot.unset).toArray = ls at hl ⊢
  have hl : lv_has ls 2 [(0, .ref h), (1, .int p1)] := hl
  refine lv_aload_n hx hb dX4_count_0 rfl (lv_at hl 0 rfl) ?_
  refine lv_iconst (v := (0 : Int32)) hx hb dX4_count_1 (by decide) ?_
  refine va_put (D := (dC, dI)) (ci := 4) (v := .int (0 : Int32)) (ty := .int) (C := RX4) (T := TX4) (N := 27) hx hb hts nX4_count_X4 tyX4 tyX4_ok nmX4 hown hK hP hD hS 0 rfl rfl 19 (by decide) (hts _ mX4_count_f71) (fun _ h9 => h9) rfl (by decide +kernel) rfl rfl (Nat.le_of_ble_eq_true rfl) dX4_count_2 (fun H locs hP hD hS => ?_)
  rw [wd4_I19] at hP hD
  refine lv_iload_n hx hb dX4_count_5 rfl (lv_at hl 1 rfl) ?_
  by_cases g0 : p1 = (0 : Int32)
  · have hq := hq.2.1 g0
    refine lv_tableIn (off := 42) (tgt := 48) hx hb dX4_count_6 (by rw [g0]; decide) (by rw [g0]; decide) (by rw [g0]; rfl) (by decide) ?_
    refine lv_aload_n hx hb dX4_count_48 rfl (lv_at hl 0 rfl) ?_
    refine va_get (D := (dC, dI)) (ci := 4) (v := .int (I 2)) (C := RX4) (T := TX4) (N := 27) hx hb hts nX4_count_X4 hown hK hP 0 rfl rfl 2 (by decide) (hts _ mX4_count_f81) (fun _ h9 => h9) rfl dX4_count_49 ?_
    exact w_iret (post := fun r (u : (Nat → Int32) × (Nat → Nat → Int32)) => post r u.1 u.2) (wf := fun u : (Nat → Int32) × (Nat → Nat → Int32) => wd4 cI h ad u.1 u.2) (u := (va_up I 19 (0 : Int32), R)) hx hb hr hK hP hD hS hq dX4_count_52 hlocks
  by_cases g1 : p1 = (1 : Int32)
  · have hq := hq.2.2.1 g1
    refine lv_tableIn (off := 47) (tgt := 53) hx hb dX4_count_6 (by rw [g1]; decide) (by rw [g1]; decide) (by rw [g1]; rfl) (by decide) ?_
    refine lv_aload_n hx hb dX4_count_53 rfl (lv_at hl 0 rfl) ?_
    refine va_get (D := (dC, dI)) (ci := 4) (v := .int (I 11)) (C := RX4) (T := TX4) (N := 27) hx hb hts nX4_count_X4 hown hK hP 0 rfl rfl 11 (by decide) (hts _ mX4_count_f74) (fun _ h9 => h9) rfl dX4_count_54 ?_
    exact w_iret (post := fun r (u : (Nat → Int32) × (Nat → Nat → Int32)) => post r u.1 u.2) (wf := fun u : (Nat → Int32) × (Nat → Nat → Int32) => wd4 cI h ad u.1 u.2) (u := (va_up I 19 (0 : Int32), R)) hx hb hr hK hP hD hS hq dX4_count_57 hlocks
  by_cases g2 : p1 = (2 : Int32)
  · have hq := hq.2.2.2.1 g2
    refine lv_tableIn (off := 52) (tgt := 58) hx hb dX4_count_6 (by rw [g2]; decide) (by rw [g2]; decide) (by rw [g2]; rfl) (by decide) ?_
    refine lv_aload_n hx hb dX4_count_58 rfl (lv_at hl 0 rfl) ?_
    refine va_get (D := (dC, dI)) (ci := 4) (v := .int (I 16)) (C := RX4) (T := TX4) (N := 27) hx hb hts nX4_count_X4 hown hK hP 0 rfl rfl 16 (by decide) (hts _ mX4_count_f108) (fun _ h9 => h9) rfl dX4_count_59 ?_
    exact w_iret (post := fun r (u : (Nat → Int32) × (Nat → Nat → Int32)) => post r u.1 u.2) (wf := fun u : (Nat → Int32) × (Nat → Nat → Int32) => wd4 cI h ad u.1 u.2) (u := (va_up I 19 (0 : Int32), R)) hx hb hr hK hP hD hS hq dX4_count_62 hlocks
  by_cases g3 : p1 = (3 : Int32)
  · have hq := hq.2.2.2.2.1 g3
    refine lv_tableIn (off := 57) (tgt := 63) hx hb dX4_count_6 (by rw [g3]; decide) (by rw [g3]; decide) (by rw [g3]; rfl) (by decide) ?_
    refine lv_aload_n hx hb dX4_count_63 rfl (lv_at hl 0 rfl) ?_
    refine lv_aload_n hx hb dX4_count_64 rfl (lv_at hl 0 rfl) ?_
    refine va_get (D := (dC, dI)) (ci := 4) (v := .int (I 16)) (C := RX4) (T := TX4) (N := 27) hx hb hts nX4_count_X4 hown hK hP 0 rfl rfl 16 (by decide) (hts _ mX4_count_f108) (fun _ h9 => h9) rfl dX4_count_65 ?_
    obtain ⟨Pc_1, hc, hq⟩ := hq
    refine w_calli (wf := fun _ : Unit => wd4 cI h ad (va_up I 19 (0 : Int32)) R) (va_runV (As := [.int (I 16)]) (rest := []) ⟨hx, hb, hml, hown, hts⟩ (tX4_sum l dC dI cI h ad _ Pc_1 (I 16) (va_up I 19 (0 : Int32)) R hc) (cwV 1 hts gX4_count_X4_sum rfl rfl rfl (by decide +kernel) ⟨Nat.le_of_ble_eq_true rfl, Nat.le_of_ble_eq_true rfl⟩) (wPreV hK hP hD (ci := 4) (q0 := 0) rfl rfl) rfl rfl hl.1 rfl (lv_room (Nat.le_of_ble_eq_true rfl)) dX4_count_68 ⟨Nat.le_of_ble_eq_true rfl, Nat.le_of_ble_eq_true rfl⟩) hD hS hA (fun rc_1 u H locs hp hP hD hS => ?_)
    have hq := hq rc_1 hp
    have hP : va_P (dC, dI) vwCl (wd4 cI h ad (va_up I 19 (0 : Int32)) R) H := hP
    have hD : va_D A (wd4 cI h ad (va_up I 19 (0 : Int32)) R) := hD
    exact w_iret (post := fun r (u : (Nat → Int32) × (Nat → Nat → Int32)) => post r u.1 u.2) (wf := fun u : (Nat → Int32) × (Nat → Nat → Int32) => wd4 cI h ad u.1 u.2) (u := (va_up I 19 (0 : Int32), R)) hx hb hr hK hP hD hS hq dX4_count_71 hlocks
  by_cases g4 : p1 = (4 : Int32)
  · have hq := hq.2.2.2.2.2.1 g4
    refine lv_tableIn (off := 66) (tgt := 72) hx hb dX4_count_6 (by rw [g4]; decide) (by rw [g4]; decide) (by rw [g4]; rfl) (by decide) ?_
    refine lv_aload_n hx hb dX4_count_72 rfl (lv_at hl 0 rfl) ?_
    refine va_get (D := (dC, dI)) (ci := 4) (v := .int (I 18)) (C := RX4) (T := TX4) (N := 27) hx hb hts nX4_count_X4 hown hK hP 0 rfl rfl 18 (by decide) (hts _ mX4_count_f114) (fun _ h9 => h9) rfl dX4_count_73 ?_
    exact w_iret (post := fun r (u : (Nat → Int32) × (Nat → Nat → Int32)) => post r u.1 u.2) (wf := fun u : (Nat → Int32) × (Nat → Nat → Int32) => wd4 cI h ad u.1 u.2) (u := (va_up I 19 (0 : Int32), R)) hx hb hr hK hP hD hS hq dX4_count_76 hlocks
  by_cases g5 : p1 = (5 : Int32)
  · have hq := hq.2.2.2.2.2.2.1 g5
    refine lv_tableIn (off := 71) (tgt := 77) hx hb dX4_count_6 (by rw [g5]; decide) (by rw [g5]; decide) (by rw [g5]; rfl) (by decide) ?_
    refine lv_aload_n hx hb dX4_count_77 rfl (lv_at hl 0 rfl) ?_
    obtain ⟨Pc_2, hc, hq⟩ := hq
    refine w_calli (wf := fun u : (Nat → Int32) × (Nat → Nat → Int32) => wd4 cI h ad u.1 u.2) (va_runV (As := []) (rest := []) ⟨hx, hb, hml, hown, hts⟩ (tX4_good l dC dI cI h ad _ Pc_2  (va_up I 19 (0 : Int32)) R hc) (cwV 0 hts gX4_count_X4_good rfl rfl rfl (by decide +kernel) ⟨Nat.le_of_ble_eq_true rfl, Nat.le_of_ble_eq_true rfl⟩) (wPreV hK hP hD (ci := 4) (q0 := 0) rfl rfl) rfl rfl hl.1 rfl (lv_room (Nat.le_of_ble_eq_true rfl)) dX4_count_78 ⟨Nat.le_of_ble_eq_true rfl, Nat.le_of_ble_eq_true rfl⟩) hD hS hA (fun rc_2 u H locs hp hP hD hS => ?_)
    obtain ⟨Ic_2, Rc_2⟩ := u
    have hq := hq rc_2 Ic_2 Rc_2 hp
    have hP : va_P (dC, dI) vwCl (wd4 cI h ad Ic_2 Rc_2) H := hP
    have hD : va_D A (wd4 cI h ad Ic_2 Rc_2) := hD
    exact w_iret (post := fun r (u : (Nat → Int32) × (Nat → Nat → Int32)) => post r u.1 u.2) (wf := fun u : (Nat → Int32) × (Nat → Nat → Int32) => wd4 cI h ad u.1 u.2) (u := (Ic_2, Rc_2)) hx hb hr hK hP hD hS hq dX4_count_81 hlocks
  by_cases g6 : p1 = (6 : Int32)
  · have hq := hq.2.2.2.2.2.2.2 g6
    refine lv_tableIn (off := 76) (tgt := 82) hx hb dX4_count_6 (by rw [g6]; decide) (by rw [g6]; decide) (by rw [g6]; rfl) (by decide) ?_
    refine lv_aload_n hx hb dX4_count_82 rfl (lv_at hl 0 rfl) ?_
    obtain ⟨Pc_3, hc, hq⟩ := hq
    refine w_calli (wf := fun u : (Nat → Int32) × (Nat → Nat → Int32) => wd4 cI h ad u.1 u.2) (va_runV (As := []) (rest := []) ⟨hx, hb, hml, hown, hts⟩ (tX4_shown l dC dI cI h ad _ Pc_3  (va_up I 19 (0 : Int32)) R hc) (cwV 0 hts gX4_count_X4_shown rfl rfl rfl (by decide +kernel) ⟨Nat.le_of_ble_eq_true rfl, Nat.le_of_ble_eq_true rfl⟩) (wPreV hK hP hD (ci := 4) (q0 := 0) rfl rfl) rfl rfl hl.1 rfl (lv_room (Nat.le_of_ble_eq_true rfl)) dX4_count_83 ⟨Nat.le_of_ble_eq_true rfl, Nat.le_of_ble_eq_true rfl⟩) hD hS hA (fun rc_3 u H locs hp hP hD hS => ?_)
    obtain ⟨Ic_3, Rc_3⟩ := u
    have hq := hq rc_3 Ic_3 Rc_3 hp
    have hP : va_P (dC, dI) vwCl (wd4 cI h ad Ic_3 Rc_3) H := hP
    have hD : va_D A (wd4 cI h ad Ic_3 Rc_3) := hD
    exact w_iret (post := fun r (u : (Nat → Int32) × (Nat → Nat → Int32)) => post r u.1 u.2) (wf := fun u : (Nat → Int32) × (Nat → Nat → Int32) => wd4 cI h ad u.1 u.2) (u := (Ic_3, Rc_3)) hx hb hr hK hP hD hS hq dX4_count_86 hlocks
  have g0 : p1.toInt ≠ 0 := ne_toInt g0
  have g1 : p1.toInt ≠ 1 := ne_toInt g1
  have g2 : p1.toInt ≠ 2 := ne_toInt g2
  have g3 : p1.toInt ≠ 3 := ne_toInt g3
  have g4 : p1.toInt ≠ 4 := ne_toInt g4
  have g5 : p1.toInt ≠ 5 := ne_toInt g5
  have g6 : p1.toInt ≠ 6 := ne_toInt g6
  have hc : p1.toInt < 0 ∨ 6 < p1.toInt := by omega
  have hq := hq.1 hc
  refine lv_tableOut (tgt := 87) hx hb dX4_count_6 hc (by decide) ?_
  refine lv_iconst (v := (-1 : Int32)) hx hb dX4_count_87 (by decide) ?_
  exact w_iret (post := fun r (u : (Nat → Int32) × (Nat → Nat → Int32)) => post r u.1 u.2) (wf := fun u : (Nat → Int32) × (Nat → Nat → Int32) => wd4 cI h ad u.1 u.2) (u := (va_up I 19 (0 : Int32), R)) hx hb hr hK hP hD hS hq dX4_count_88 hlocks
def qX4_isPicture (post : Int32 → Prop) (p1 : Int32) (I : Nat → Int32) (R : Nat → Nat → Int32) : Prop := ∃ Pc_1 : Int32 → Prop, qX4_in Pc_1 p1 (0 : Int32) ((I 11) - (1 : Int32)) ∧ (∀ (rc_1 : Int32), Pc_1 rc_1 → (narrow .boolean (.int rc_1) = .int rc_1 ∧ post rc_1))
theorem mX4_isPicture_f74 : Cond.fieldLink RX4 74 "YearBookModel" "pictures" "I" ∈ wsX4_isPicture := by decide +kernel
theorem nX4_isPicture_X4 : ∀ w ∈ u_ws RX4 TX4 27, w ∈ wsX4_isPicture := by decide +kernel
set_option maxHeartbeats 4000000 in
set_option maxRecDepth 100000 in
theorem tX4_isPicture (l : Launch) (dC : Nat → ClassId) (dI : Nat → Nat → Nat) (cI : ClassId) (h : Nat) (ad : Nat → Nat)  (sz : Nat) (post : Int32 → Prop) (p1 : Int32) (I : Nat → Int32) (R : Nat → Nat → Int32) (hq : qX4_isPicture post p1 I R) : Met l yX4_isPicture wsX4_isPicture ({ frames := 1, cells := 0, slots := 0, locals := 22 } : Room) (va_Pc [.ref h, .int p1] (wPre (dC, dI) vwCl [(cI, .int)] (wd4 cI h ad I R) sz)) (va_Qi (fun r (_ : Unit) => post r ) (wAt (dC, dI) vwCl [(cI, .int)] (va_A (wd4 cI h ad I R) sz) (fun _ : Unit => wd4 cI h ad I R)) (va_A (wd4 cI h ad I R) sz)) 0 0 (va_A (wd4 cI h ad I R) sz) := by
  unfold qX4_isPicture at hq
  refine Met.ofW (cc := cX4_isPicture) (maxL := 2) (ret := (some .boolean)) (by decide) rfl ?_
  intro p e s m args below meth c s₁ B hml hv
  obtain ⟨rfl, hsz, hP, hK, hD0⟩ := hv
  have hx := B.exec
  have hb := B.bytes
  have hr := B.returns
  have hts := atoms_spec (ws := wsX4_isPicture) B.pre
  have hown : s.vm.findClass RX4 = some m.cls := findClass_of_methodNamed B.named
  have hlocks := B.notSynchronized
  subst hsz
  have hD := hD0.self (sz := s.heap.size)
  generalize hAe : va_A (wd4 cI h ad I R) s.heap.size = A at hD ⊢
  have hA : ∀ q : Nat, s.heap.size ≤ q → A q := fun q h => by rw [← hAe]; exact Or.inr h
  have hS : va_S A s.heap s.heap [] := va_S.rf
  have hl := lv_entry ([.ref h, .int p1]) (n := 2) (Nat.le_of_ble_eq_true rfl)
  rw [lg_entry_eq]
  generalize (lg_sl ([.ref h, .int p1]) ++ List.replicate (2 - (lg_sl ([.ref h, .int p1])).length) Slot.unset).toArray = ls at hl ⊢
  have hl : lv_has ls 2 [(0, .ref h), (1, .int p1)] := hl
  refine lv_iload_n hx hb dX4_isPicture_0 rfl (lv_at hl 1 rfl) ?_
  refine lv_iconst (v := (0 : Int32)) hx hb dX4_isPicture_1 (by decide) ?_
  refine lv_aload_n hx hb dX4_isPicture_2 rfl (lv_at hl 0 rfl) ?_
  refine va_get (D := (dC, dI)) (ci := 4) (v := .int (I 11)) (C := RX4) (T := TX4) (N := 27) hx hb hts nX4_isPicture_X4 hown hK hP 0 rfl rfl 11 (by decide) (hts _ mX4_isPicture_f74) (fun _ h9 => h9) rfl dX4_isPicture_3 ?_
  refine lv_iconst (v := (1 : Int32)) hx hb dX4_isPicture_6 (by decide) ?_
  refine lv_isub hx hb dX4_isPicture_7 ?_
  obtain ⟨Pc_1, hc, hq⟩ := hq
  refine vp_callSi (W.runS (As := [.int p1, .int (0 : Int32), .int ((I 11) - (1 : Int32))]) (rest := []) ⟨hx, hb, hml, hown, hts⟩ (tX4_in l Pc_1 p1 (0 : Int32) ((I 11) - (1 : Int32)) hc) (va_cwS 3 hts gX4_isPicture_X4_in rfl rfl rfl (by decide +kernel) ⟨Nat.le_of_ble_eq_true rfl, Nat.le_of_ble_eq_true rfl⟩) preEq rfl rfl hl.1 rfl (lv_room (Nat.le_of_ble_eq_true rfl)) dX4_isPicture_8 ⟨Nat.le_of_ble_eq_true rfl, Nat.le_of_ble_eq_true rfl⟩) (fun rc_1 hp => ?_)
  have hq := hq rc_1 hp
  exact w_zret (post := fun r (_ : Unit) => post r ) (wf := fun _ : Unit => wd4 cI h ad I R) (u := ()) hx hb hr hq.1 hK hP hD hS hq.2 dX4_isPicture_11 hlocks
def zX4_pageOf (post : Int32 → Prop) (p1 : Int32) (I : Nat → Int32) (R : Nat → Nat → Int32) (X2 : Int32 → Prop) : Prop :=
  (∀ (x2 : Int32), ((((I 18) ≤ x2) → (post (-1 : Int32))) ∧ ((¬ (I 18) ≤ x2) → (vp_in x2 14 ∧ (((¬ (((R 17 x2.toNatClampNeg) >>> (p1 &&& 31)) &&& (1 : Int32)) = (1 : Int32)) → (X2 (x2 + (1 : Int32)))) ∧ (((((R 17 x2.toNatClampNeg) >>> (p1 &&& 31)) &&& (1 : Int32)) = (1 : Int32)) → (post x2)))))) → X2 x2)
def qX4_pageOf_2 (post : Int32 → Prop) (p1 : Int32) (I : Nat → Int32) (R : Nat → Nat → Int32) (x2 : Int32) : Prop := ∀ (X2 : Int32 → Prop), zX4_pageOf post p1 I R X2 → X2 x2
theorem kX4_pageOf_2 {post : Int32 → Prop} {p1 : Int32} {I : Nat → Int32} {R : Nat → Nat → Int32} {x2 : Int32} (h : (((I 18) ≤ x2) → (post (-1 : Int32))) ∧ ((¬ (I 18) ≤ x2) → (vp_in x2 14 ∧ (((¬ (((R 17 x2.toNatClampNeg) >>> (p1 &&& 31)) &&& (1 : Int32)) = (1 : Int32)) → (qX4_pageOf_2 post p1 I R (x2 + (1 : Int32)))) ∧ (((((R 17 x2.toNatClampNeg) >>> (p1 &&& 31)) &&& (1 : Int32)) = (1 : Int32)) → (post x2)))))) : qX4_pageOf_2 post p1 I R x2 := by
  intro Z2 hcl
  refine hcl x2 ?_
  refine ⟨fun c => ?_, fun c => ?_⟩
  · have h := h.1 c
    exact h
  · have h := h.2 c
    refine ⟨h.1, ?_⟩
    have h := h.2
    refine ⟨fun c => ?_, fun c => ?_⟩
    · have h := h.1 c
      exact h _ hcl
    · have h := h.2 c
      exact h
def qX4_pageOf (post : Int32 → Prop) (p1 : Int32) (I : Nat → Int32) (R : Nat → Nat → Int32) : Prop := qX4_pageOf_2 post p1 I R (0 : Int32)
theorem mX4_pageOf_f114 : Cond.fieldLink RX4 114 "YearBookModel" "pageMany" "I" ∈ wsX4_pageOf := by decide +kernel
theorem nX4_pageOf_X4 : ∀ w ∈ u_ws RX4 TX4 27, w ∈ wsX4_pageOf := by decide +kernel
theorem mX4_pageOf_f50 : Cond.fieldLink RX4 50 "YearBookModel" "pages" "[I" ∈ wsX4_pageOf := by decide +kernel
set_option maxHeartbeats 4000000 in
set_option maxRecDepth 100000 in
theorem tX4_pageOf (l : Launch) (dC : Nat → ClassId) (dI : Nat → Nat → Nat) (cI : ClassId) (h : Nat) (ad : Nat → Nat)  (sz : Nat) (post : Int32 → Prop) (p1 : Int32) (I : Nat → Int32) (R : Nat → Nat → Int32) (hq : qX4_pageOf post p1 I R) : Met l yX4_pageOf wsX4_pageOf ({ frames := 0, cells := 0, slots := 0, locals := 0 } : Room) (va_Pc [.ref h, .int p1] (wPre (dC, dI) vwCl [(cI, .int)] (wd4 cI h ad I R) sz)) (va_Qi (fun r (_ : Unit) => post r ) (wAt (dC, dI) vwCl [(cI, .int)] (va_A (wd4 cI h ad I R) sz) (fun _ : Unit => wd4 cI h ad I R)) (va_A (wd4 cI h ad I R) sz)) 0 0 (va_A (wd4 cI h ad I R) sz) := by
  unfold qX4_pageOf at hq
  refine Met.ofW (cc := cX4_pageOf) (maxL := 3) (ret := (some .int)) (by decide) rfl ?_
  intro p e s m args below meth c s₁ B hml hv
  obtain ⟨rfl, hsz, hP, hK, hD0⟩ := hv
  have hx := B.exec
  have hb := B.bytes
  have hr := B.returns
  have hts := atoms_spec (ws := wsX4_pageOf) B.pre
  have hown : s.vm.findClass RX4 = some m.cls := findClass_of_methodNamed B.named
  have hlocks := B.notSynchronized
  subst hsz
  have hD := hD0.self (sz := s.heap.size)
  generalize hAe : va_A (wd4 cI h ad I R) s.heap.size = A at hD ⊢
  have hA : ∀ q : Nat, s.heap.size ≤ q → A q := fun q h => by rw [← hAe]; exact Or.inr h
  have hS : va_S A s.heap s.heap [] := va_S.rf
  have hZ : zX4_pageOf post p1 I R
      (fun (x2 : Int32) => ∀ (H : Heap) (locs : List Loc) (ls : Array Slot), va_P (dC, dI) vwCl (wd4 cI h ad I R) H → va_D A (wd4 cI h ad I R) → va_S A s.heap H locs → lv_has ls 3 [(0, .ref h), (1, .int p1), (2, .int x2)] → W p l e (headSpec wsX4_pageOf ({ frames := 0, cells := 0, slots := 0, locals := 0 } : Room)).room s m ([.ref h, .int p1] : List Value).toArray below meth c H locs 0 0 (MQ below (va_Qi (fun r (_ : Unit) => post r ) (wAt (dC, dI) vwCl [(cI, .int)] A (fun _ : Unit => wd4 cI h ad I R)) A) ([.ref h, .int p1] : List Value).toArray s 0 0 A) (F0 m 2 ls [])) := by
    unfold zX4_pageOf
    intro x2 hq H locs ls hP hD hS hl
    refine lv_iload_n hx hb dX4_pageOf_2 rfl (lv_at hl 2 rfl) ?_
    refine lv_aload_n hx hb dX4_pageOf_3 rfl (lv_at hl 0 rfl) ?_
    refine va_get (D := (dC, dI)) (ci := 4) (v := .int (I 18)) (C := RX4) (T := TX4) (N := 27) hx hb hts nX4_pageOf_X4 hown hK hP 0 rfl rfl 18 (by decide) (hts _ mX4_pageOf_f114) (fun _ h9 => h9) rfl dX4_pageOf_4 ?_
    refine lv_icmp_ge (tgt := 32) hx hb dX4_pageOf_7 (by decide) (fun hc => ?_) (fun hc => ?_)
    · have hq := hq.1 hc
      refine lv_iconst (v := (-1 : Int32)) hx hb dX4_pageOf_32 (by decide) ?_
      exact w_iret (post := fun r (_ : Unit) => post r ) (wf := fun _ : Unit => wd4 cI h ad I R) (u := ()) hx hb hr hK hP hD hS hq dX4_pageOf_33 hlocks
    · have hq := hq.2 hc
      refine lv_aload_n hx hb dX4_pageOf_10 rfl (lv_at hl 0 rfl) ?_
      refine va_get (D := (dC, dI)) (ci := 4) (v := .ref (ad 17)) (C := RX4) (T := TX4) (N := 27) hx hb hts nX4_pageOf_X4 hown hK hP 0 rfl rfl 17 (by decide) (hts _ mX4_pageOf_f50) (fun _ h9 => h9) rfl dX4_pageOf_11 ?_
      refine lv_iload_n hx hb dX4_pageOf_14 rfl (lv_at hl 2 rfl) ?_
      obtain ⟨hi_1, hq⟩ := hq
      refine va_iald (f := R 17) hx hb hK hP 11 0 rfl rfl hi_1 dX4_pageOf_15 ?_
      refine lv_iload_n hx hb dX4_pageOf_16 rfl (lv_at hl 1 rfl) ?_
      refine lv_ishr hx hb dX4_pageOf_17 ?_
      refine lv_iconst (v := (1 : Int32)) hx hb dX4_pageOf_18 (by decide) ?_
      refine lv_iand hx hb dX4_pageOf_19 ?_
      refine lv_iconst (v := (1 : Int32)) hx hb dX4_pageOf_20 (by decide) ?_
      refine lv_icmp_ne (tgt := 26) hx hb dX4_pageOf_21 (by decide) (fun hc => ?_) (fun hc => ?_)
      · have hq := hq.1 hc
        refine lv_iinc (v := x2 + (1 : Int32)) (lv' := [(2, .int (x2 + (1 : Int32))), (0, .ref h), (1, .int p1)]) hx hb dX4_pageOf_26 hl (k := 2) rfl rfl (by decide) rfl (fun ls hl => ?_)
        refine lv_goto (tgt := 2) hx hb dX4_pageOf_29 (by decide) ?_
        exact hq _ _ ls hP hD hS (lv_sub hl [1, 2, 0] rfl)
      · have hq := hq.2 hc
        refine lv_iload_n hx hb dX4_pageOf_24 rfl (lv_at hl 2 rfl) ?_
        exact w_iret (post := fun r (_ : Unit) => post r ) (wf := fun _ : Unit => wd4 cI h ad I R) (u := ()) hx hb hr hK hP hD hS hq dX4_pageOf_25 hlocks
  have hl := lv_entry ([.ref h, .int p1]) (n := 3) (Nat.le_of_ble_eq_true rfl)
  rw [lg_entry_eq]
  generalize (lg_sl ([.ref h, .int p1]) ++ List.replicate (3 - (lg_sl ([.ref h, .int p1])).length) Slot.unset).toArray = ls at hl ⊢
  have hl : lv_has ls 3 [(0, .ref h), (1, .int p1)] := hl
  refine lv_iconst (v := (0 : Int32)) hx hb dX4_pageOf_0 (by decide) ?_
  refine lv_istore_n (lv' := [(2, .int (0 : Int32)), (0, .ref h), (1, .int p1)]) hx hb dX4_pageOf_1 rfl hl (by decide) rfl (fun ls hl => ?_)
  exact hq _ hZ _ _ ls hP hD hS (lv_sub hl [1, 2, 0] rfl)
def qX4_drop (post : Int32 → (Nat → Int32) → (Nat → Nat → Int32) → Prop) (p1 : Int32) (I : Nat → Int32) (R : Nat → Nat → Int32) : Prop := ∃ Pc_1 : Int32 → Prop, qX4_isPicture Pc_1 p1 (va_up I 19 (0 : Int32)) R ∧ (∀ (rc_1 : Int32), Pc_1 rc_1 → (((rc_1 = 0) → (post (0 : Int32) (va_up I 19 (0 : Int32)) R)) ∧ ((¬ rc_1 = 0) → (∃ Pc_2 : Int32 → Prop, qX4_pageOf Pc_2 p1 (va_up I 19 (0 : Int32)) R ∧ (∀ (rc_2 : Int32), Pc_2 rc_2 → (((¬ rc_2 = (-1 : Int32)) → (∃ Pc_3 : Int32 → Prop, qX4_pageOf Pc_3 p1 (va_up I 19 (0 : Int32)) R ∧ (∀ (rc_3 : Int32), Pc_3 rc_3 → (vp_in rc_3 14 ∧ (post (1 : Int32) (va_up (va_up I 19 (0 : Int32)) 16 ((I 16) &&& (((1 : Int32) <<< (p1 &&& 31)) ^^^ (-1 : Int32)))) (va_up R 17 (upd (R 17) rc_3.toNatClampNeg ((R 17 rc_3.toNatClampNeg) ^^^ ((1 : Int32) <<< (p1 &&& 31)))))))))) ∧ ((rc_2 = (-1 : Int32)) → (post (0 : Int32) (va_up I 19 (0 : Int32)) R))))))))
theorem mX4_drop_f71 : Cond.fieldLink RX4 71 "YearBookModel" "thrown" "I" ∈ wsX4_drop := by decide +kernel
theorem nX4_drop_X4 : ∀ w ∈ u_ws RX4 TX4 27, w ∈ wsX4_drop := by decide +kernel
theorem mX4_drop_f50 : Cond.fieldLink RX4 50 "YearBookModel" "pages" "[I" ∈ wsX4_drop := by decide +kernel
theorem mX4_drop_f108 : Cond.fieldLink RX4 108 "YearBookModel" "choice" "I" ∈ wsX4_drop := by decide +kernel
set_option maxHeartbeats 4000000 in
set_option maxRecDepth 100000 in
theorem tX4_drop (l : Launch) (dC : Nat → ClassId) (dI : Nat → Nat → Nat) (cI : ClassId) (h : Nat) (ad : Nat → Nat)  (sz : Nat) (post : Int32 → (Nat → Int32) → (Nat → Nat → Int32) → Prop) (p1 : Int32) (I : Nat → Int32) (R : Nat → Nat → Int32) (hq : qX4_drop post p1 I R) : Met l yX4_drop wsX4_drop ({ frames := 2, cells := 0, slots := 0, locals := 43 } : Room) (va_Pc [.ref h, .int p1] (wPre (dC, dI) vwCl [(cI, .int)] (wd4 cI h ad I R) sz)) (va_Qi (fun r (u : (Nat → Int32) × (Nat → Nat → Int32)) => post r u.1 u.2) (wAt (dC, dI) vwCl [(cI, .int)] (va_A (wd4 cI h ad I R) sz) (fun u : (Nat → Int32) × (Nat → Nat → Int32) => wd4 cI h ad u.1 u.2)) (va_A (wd4 cI h ad I R) sz)) 0 0 (va_A (wd4 cI h ad I R) sz) := by
  unfold qX4_drop at hq
  refine Met.ofW (cc := cX4_drop) (maxL := 2) (ret := (some .boolean)) (by decide) rfl ?_
  intro p e s m args below meth c s₁ B hml hv
  obtain ⟨rfl, hsz, hP, hK, hD0⟩ := hv
  have hx := B.exec
  have hb := B.bytes
  have hr := B.returns
  have hts := atoms_spec (ws := wsX4_drop) B.pre
  have hown : s.vm.findClass RX4 = some m.cls := findClass_of_methodNamed B.named
  have hlocks := B.notSynchronized
  subst hsz
  have hD := hD0.self (sz := s.heap.size)
  generalize hAe : va_A (wd4 cI h ad I R) s.heap.size = A at hD ⊢
  have hA : ∀ q : Nat, s.heap.size ≤ q → A q := fun q h => by rw [← hAe]; exact Or.inr h
  have hS : va_S A s.heap s.heap [] := va_S.rf
  have hl := lv_entry ([.ref h, .int p1]) (n := 2) (Nat.le_of_ble_eq_true rfl)
  rw [lg_entry_eq]
  generalize (lg_sl ([.ref h, .int p1]) ++ List.replicate (2 - (lg_sl ([.ref h, .int p1])).length) Slot.unset).toArray = ls at hl ⊢
  have hl : lv_has ls 2 [(0, .ref h), (1, .int p1)] := hl
  refine lv_aload_n hx hb dX4_drop_0 rfl (lv_at hl 0 rfl) ?_
  refine lv_iconst (v := (0 : Int32)) hx hb dX4_drop_1 (by decide) ?_
  refine va_put (D := (dC, dI)) (ci := 4) (v := .int (0 : Int32)) (ty := .int) (C := RX4) (T := TX4) (N := 27) hx hb hts nX4_drop_X4 tyX4 tyX4_ok nmX4 hown hK hP hD hS 0 rfl rfl 19 (by decide) (hts _ mX4_drop_f71) (fun _ h9 => h9) rfl (by decide +kernel) rfl rfl (Nat.le_of_ble_eq_true rfl) dX4_drop_2 (fun H locs hP hD hS => ?_)
  rw [wd4_I19] at hP hD
  refine lv_aload_n hx hb dX4_drop_5 rfl (lv_at hl 0 rfl) ?_
  refine lv_iload_n hx hb dX4_drop_6 rfl (lv_at hl 1 rfl) ?_
  obtain ⟨Pc_1, hc, hq⟩ := hq
  refine w_calli (wf := fun _ : Unit => wd4 cI h ad (va_up I 19 (0 : Int32)) R) (va_runV (As := [.int p1]) (rest := []) ⟨hx, hb, hml, hown, hts⟩ (tX4_isPicture l dC dI cI h ad _ Pc_1 p1 (va_up I 19 (0 : Int32)) R hc) (cwV 1 hts gX4_drop_X4_isPicture rfl rfl rfl (by decide +kernel) ⟨Nat.le_of_ble_eq_true rfl, Nat.le_of_ble_eq_true rfl⟩) (wPreV hK hP hD (ci := 4) (q0 := 0) rfl rfl) rfl rfl hl.1 rfl (lv_room (Nat.le_of_ble_eq_true rfl)) dX4_drop_7 ⟨Nat.le_of_ble_eq_true rfl, Nat.le_of_ble_eq_true rfl⟩) hD hS hA (fun rc_1 u H locs hp hP hD hS => ?_)
  have hq := hq rc_1 hp
  have hP : va_P (dC, dI) vwCl (wd4 cI h ad (va_up I 19 (0 : Int32)) R) H := hP
  have hD : va_D A (wd4 cI h ad (va_up I 19 (0 : Int32)) R) := hD
  refine lv_if_eq (tgt := 22) hx hb dX4_drop_10 (by decide) (fun hc => ?_) (fun hc => ?_)
  · have hq := hq.1 hc
    refine lv_iconst (v := (0 : Int32)) hx hb dX4_drop_22 (by decide) ?_
    exact w_zret (post := fun r (u : (Nat → Int32) × (Nat → Nat → Int32)) => post r u.1 u.2) (wf := fun u : (Nat → Int32) × (Nat → Nat → Int32) => wd4 cI h ad u.1 u.2) (u := (va_up I 19 (0 : Int32), R)) hx hb hr rfl hK hP hD hS hq dX4_drop_23 hlocks
  · have hq := hq.2 hc
    refine lv_aload_n hx hb dX4_drop_13 rfl (lv_at hl 0 rfl) ?_
    refine lv_iload_n hx hb dX4_drop_14 rfl (lv_at hl 1 rfl) ?_
    obtain ⟨Pc_2, hc, hq⟩ := hq
    refine w_calli (wf := fun _ : Unit => wd4 cI h ad (va_up I 19 (0 : Int32)) R) (va_runV (As := [.int p1]) (rest := []) ⟨hx, hb, hml, hown, hts⟩ (tX4_pageOf l dC dI cI h ad _ Pc_2 p1 (va_up I 19 (0 : Int32)) R hc) (cwV 1 hts gX4_drop_X4_pageOf rfl rfl rfl (by decide +kernel) ⟨Nat.le_of_ble_eq_true rfl, Nat.le_of_ble_eq_true rfl⟩) (wPreV hK hP hD (ci := 4) (q0 := 0) rfl rfl) rfl rfl hl.1 rfl (lv_room (Nat.le_of_ble_eq_true rfl)) dX4_drop_15 ⟨Nat.le_of_ble_eq_true rfl, Nat.le_of_ble_eq_true rfl⟩) hD hS hA (fun rc_2 u H locs hp hP hD hS => ?_)
    have hq := hq rc_2 hp
    have hP : va_P (dC, dI) vwCl (wd4 cI h ad (va_up I 19 (0 : Int32)) R) H := hP
    have hD : va_D A (wd4 cI h ad (va_up I 19 (0 : Int32)) R) := hD
    refine lv_iconst (v := (-1 : Int32)) hx hb dX4_drop_18 (by decide) ?_
    refine lv_icmp_ne (tgt := 24) hx hb dX4_drop_19 (by decide) (fun hc => ?_) (fun hc => ?_)
    · have hq := hq.1 hc
      refine lv_aload_n hx hb dX4_drop_24 rfl (lv_at hl 0 rfl) ?_
      refine va_get (D := (dC, dI)) (ci := 4) (v := .ref (ad 17)) (C := RX4) (T := TX4) (N := 27) hx hb hts nX4_drop_X4 hown hK hP 0 rfl rfl 17 (by decide) (hts _ mX4_drop_f50) (fun _ h9 => h9) rfl dX4_drop_25 ?_
      refine lv_aload_n hx hb dX4_drop_28 rfl (lv_at hl 0 rfl) ?_
      refine lv_iload_n hx hb dX4_drop_29 rfl (lv_at hl 1 rfl) ?_
      obtain ⟨Pc_3, hc, hq⟩ := hq
      refine w_calli (wf := fun _ : Unit => wd4 cI h ad (va_up I 19 (0 : Int32)) R) (va_runV (As := [.int p1]) (rest := [.ref (ad 17)]) ⟨hx, hb, hml, hown, hts⟩ (tX4_pageOf l dC dI cI h ad _ Pc_3 p1 (va_up I 19 (0 : Int32)) R hc) (cwV 1 hts gX4_drop_X4_pageOf rfl rfl rfl (by decide +kernel) ⟨Nat.le_of_ble_eq_true rfl, Nat.le_of_ble_eq_true rfl⟩) (wPreV hK hP hD (ci := 4) (q0 := 0) rfl rfl) rfl rfl hl.1 rfl (lv_room (Nat.le_of_ble_eq_true rfl)) dX4_drop_30 ⟨Nat.le_of_ble_eq_true rfl, Nat.le_of_ble_eq_true rfl⟩) hD hS hA (fun rc_3 u H locs hp hP hD hS => ?_)
      have hq := hq rc_3 hp
      have hP : va_P (dC, dI) vwCl (wd4 cI h ad (va_up I 19 (0 : Int32)) R) H := hP
      have hD : va_D A (wd4 cI h ad (va_up I 19 (0 : Int32)) R) := hD
      refine lv_dup2_11 hx hb dX4_drop_33 rfl rfl ?_
      obtain ⟨hi_4, hq⟩ := hq
      refine va_iald (f := R 17) hx hb hK hP 11 0 rfl rfl hi_4 dX4_drop_34 ?_
      refine lv_iconst (v := (1 : Int32)) hx hb dX4_drop_35 (by decide) ?_
      refine lv_iload_n hx hb dX4_drop_36 rfl (lv_at hl 1 rfl) ?_
      refine lv_ishl hx hb dX4_drop_37 ?_
      refine lv_ixor hx hb dX4_drop_38 ?_
      refine va_iast (f := R 17) hx hb hK hP hD hS 11 0 rfl rfl hi_4 dX4_drop_39 (fun H locs hP hD hS => ?_)
      rw [wd4_R17] at hP hD
      refine lv_aload_n hx hb dX4_drop_40 rfl (lv_at hl 0 rfl) ?_
      refine lv_dup hx hb dX4_drop_41 rfl ?_
      refine va_get (D := (dC, dI)) (ci := 4) (v := .int (I 16)) (C := RX4) (T := TX4) (N := 27) hx hb hts nX4_drop_X4 hown hK hP 0 rfl rfl 16 (by decide) (hts _ mX4_drop_f108) (fun _ h9 => h9) rfl dX4_drop_42 ?_
      refine lv_iconst (v := (1 : Int32)) hx hb dX4_drop_45 (by decide) ?_
      refine lv_iload_n hx hb dX4_drop_46 rfl (lv_at hl 1 rfl) ?_
      refine lv_ishl hx hb dX4_drop_47 ?_
      refine lv_iconst (v := (-1 : Int32)) hx hb dX4_drop_48 (by decide) ?_
      refine lv_ixor hx hb dX4_drop_49 ?_
      refine lv_iand hx hb dX4_drop_50 ?_
      refine va_put (D := (dC, dI)) (ci := 4) (v := .int ((I 16) &&& (((1 : Int32) <<< (p1 &&& 31)) ^^^ (-1 : Int32)))) (ty := .int) (C := RX4) (T := TX4) (N := 27) hx hb hts nX4_drop_X4 tyX4 tyX4_ok nmX4 hown hK hP hD hS 0 rfl rfl 16 (by decide) (hts _ mX4_drop_f108) (fun _ h9 => h9) rfl (by decide +kernel) rfl rfl (Nat.le_of_ble_eq_true rfl) dX4_drop_51 (fun H locs hP hD hS => ?_)
      rw [wd4_I16] at hP hD
      refine lv_iconst (v := (1 : Int32)) hx hb dX4_drop_54 (by decide) ?_
      exact w_zret (post := fun r (u : (Nat → Int32) × (Nat → Nat → Int32)) => post r u.1 u.2) (wf := fun u : (Nat → Int32) × (Nat → Nat → Int32) => wd4 cI h ad u.1 u.2) (u := (va_up (va_up I 19 (0 : Int32)) 16 ((I 16) &&& (((1 : Int32) <<< (p1 &&& 31)) ^^^ (-1 : Int32))), va_up R 17 (upd (R 17) rc_3.toNatClampNeg ((R 17 rc_3.toNatClampNeg) ^^^ ((1 : Int32) <<< (p1 &&& 31)))))) hx hb hr rfl hK hP hD hS hq dX4_drop_55 hlocks
    · have hq := hq.2 hc
      refine lv_iconst (v := (0 : Int32)) hx hb dX4_drop_22 (by decide) ?_
      exact w_zret (post := fun r (u : (Nat → Int32) × (Nat → Nat → Int32)) => post r u.1 u.2) (wf := fun u : (Nat → Int32) × (Nat → Nat → Int32) => wd4 cI h ad u.1 u.2) (u := (va_up I 19 (0 : Int32), R)) hx hb hr rfl hK hP hD hS hq dX4_drop_23 hlocks
def zX4_face (post : Int32 → (Nat → Int32) → (Nat → Nat → Int32) → Prop) (p1 : Int32) (p2 : Int32) (p3 : Int32) (p4 : Int32) (p5 : Int32) (X69 : Int32 → (Nat → Int32) → (Nat → Nat → Int32) → Prop) : Prop :=
  (∀ (x6 : Int32) (I : Nat → Int32) (R : Nat → Nat → Int32), (vp_in p1 14 ∧ ((((R 6 p1.toNatClampNeg) ≤ x6) → (∀ x6_8 : Int32, x6_8 = ((8 : Int32) * p1) + (R 6 p1.toNatClampNeg) → (vp_in x6_8 112 ∧ (∀ v_10 : Int32, v_10 = (upd (R 6) p1.toNatClampNeg ((R 6 p1.toNatClampNeg) + (1 : Int32))) p1.toNatClampNeg → (post v_10 I (va_up (va_up (va_up (va_up (va_up R 7 (upd (R 7) x6_8.toNatClampNeg p2)) 8 (upd (R 8) x6_8.toNatClampNeg p3)) 9 (upd (R 9) x6_8.toNatClampNeg p4)) 10 (upd (R 10) x6_8.toNatClampNeg p5)) 6 (upd (R 6) p1.toNatClampNeg ((R 6 p1.toNatClampNeg) + (1 : Int32))))))))) ∧ ((¬ (R 6 p1.toNatClampNeg) ≤ x6) → (vp_in (((8 : Int32) * p1) + x6) 112 ∧ (((¬ (R 7 (((8 : Int32) * p1) + x6).toNatClampNeg) = p2) → (X69 (x6 + (1 : Int32)) I R)) ∧ (((R 7 (((8 : Int32) * p1) + x6).toNatClampNeg) = p2) → (post (-1 : Int32) I R))))))) → X69 x6 I R)
def qX4_face_69 (post : Int32 → (Nat → Int32) → (Nat → Nat → Int32) → Prop) (p1 : Int32) (p2 : Int32) (p3 : Int32) (p4 : Int32) (p5 : Int32) (x6 : Int32) (I : Nat → Int32) (R : Nat → Nat → Int32) : Prop := ∀ (X69 : Int32 → (Nat → Int32) → (Nat → Nat → Int32) → Prop), zX4_face post p1 p2 p3 p4 p5 X69 → X69 x6 I R
theorem kX4_face_69 {post : Int32 → (Nat → Int32) → (Nat → Nat → Int32) → Prop} {p1 : Int32} {p2 : Int32} {p3 : Int32} {p4 : Int32} {p5 : Int32} {x6 : Int32} {I : Nat → Int32} {R : Nat → Nat → Int32} (h : vp_in p1 14 ∧ ((((R 6 p1.toNatClampNeg) ≤ x6) → (∀ x6_8 : Int32, x6_8 = ((8 : Int32) * p1) + (R 6 p1.toNatClampNeg) → (vp_in x6_8 112 ∧ (∀ v_10 : Int32, v_10 = (upd (R 6) p1.toNatClampNeg ((R 6 p1.toNatClampNeg) + (1 : Int32))) p1.toNatClampNeg → (post v_10 I (va_up (va_up (va_up (va_up (va_up R 7 (upd (R 7) x6_8.toNatClampNeg p2)) 8 (upd (R 8) x6_8.toNatClampNeg p3)) 9 (upd (R 9) x6_8.toNatClampNeg p4)) 10 (upd (R 10) x6_8.toNatClampNeg p5)) 6 (upd (R 6) p1.toNatClampNeg ((R 6 p1.toNatClampNeg) + (1 : Int32))))))))) ∧ ((¬ (R 6 p1.toNatClampNeg) ≤ x6) → (vp_in (((8 : Int32) * p1) + x6) 112 ∧ (((¬ (R 7 (((8 : Int32) * p1) + x6).toNatClampNeg) = p2) → (qX4_face_69 post p1 p2 p3 p4 p5 (x6 + (1 : Int32)) I R)) ∧ (((R 7 (((8 : Int32) * p1) + x6).toNatClampNeg) = p2) → (post (-1 : Int32) I R))))))) : qX4_face_69 post p1 p2 p3 p4 p5 x6 I R := by
  intro Z69 hcl
  refine hcl x6 I R ?_
  refine ⟨h.1, ?_⟩
  have h := h.2
  refine ⟨fun c => ?_, fun c => ?_⟩
  · have h := h.1 c
    intro x e
    have h := h x e
    refine ⟨h.1, ?_⟩
    have h := h.2
    intro x e
    have h := h x e
    exact h
  · have h := h.2 c
    refine ⟨h.1, ?_⟩
    have h := h.2
    refine ⟨fun c => ?_, fun c => ?_⟩
    · have h := h.1 c
      exact h _ hcl
    · have h := h.2 c
      exact h
def qX4_face (post : Int32 → (Nat → Int32) → (Nat → Nat → Int32) → Prop) (p1 : Int32) (p2 : Int32) (p3 : Int32) (p4 : Int32) (p5 : Int32) (I : Nat → Int32) (R : Nat → Nat → Int32) : Prop := ∃ Pc_1 : Int32 → Prop, qX4_isPicture Pc_1 p1 (va_up I 19 (0 : Int32)) R ∧ (∀ (rc_1 : Int32), Pc_1 rc_1 → (((rc_1 = 0) → (post (-1 : Int32) (va_up I 19 (0 : Int32)) R)) ∧ ((¬ rc_1 = 0) → (∃ Pc_2 : Int32 → Prop, qX4_isChild Pc_2 p2 (va_up I 19 (0 : Int32)) R ∧ (∀ (rc_2 : Int32), Pc_2 rc_2 → (((rc_2 = 0) → (post (-1 : Int32) (va_up I 19 (0 : Int32)) R)) ∧ ((¬ rc_2 = 0) → (∃ Pc_3 : Int32 → Prop, qX4_in Pc_3 p3 (0 : Int32) (99 : Int32) ∧ (∀ (rc_3 : Int32), Pc_3 rc_3 → (((rc_3 = 0) → (post (-1 : Int32) (va_up I 19 (0 : Int32)) R)) ∧ ((¬ rc_3 = 0) → (∃ Pc_4 : Int32 → Prop, qX4_in Pc_4 p4 (0 : Int32) (99 : Int32) ∧ (∀ (rc_4 : Int32), Pc_4 rc_4 → (((rc_4 = 0) → (post (-1 : Int32) (va_up I 19 (0 : Int32)) R)) ∧ ((¬ rc_4 = 0) → (∃ Pc_5 : Int32 → Prop, qX4_in Pc_5 p5 (0 : Int32) (20 : Int32) ∧ (∀ (rc_5 : Int32), Pc_5 rc_5 → (((rc_5 = 0) → (post (-1 : Int32) (va_up I 19 (0 : Int32)) R)) ∧ ((¬ rc_5 = 0) → (vp_in p1 14 ∧ (((¬ (R 6 p1.toNatClampNeg) = (8 : Int32)) → (qX4_face_69 post p1 p2 p3 p4 p5 (0 : Int32) (va_up I 19 (0 : Int32)) R)) ∧ (((R 6 p1.toNatClampNeg) = (8 : Int32)) → (post (-1 : Int32) (va_up I 19 (0 : Int32)) R)))))))))))))))))))))))
theorem mX4_face_f71 : Cond.fieldLink RX4 71 "YearBookModel" "thrown" "I" ∈ wsX4_face := by decide +kernel
theorem nX4_face_X4 : ∀ w ∈ u_ws RX4 TX4 27, w ∈ wsX4_face := by decide +kernel
theorem mX4_face_f25 : Cond.fieldLink RX4 25 "YearBookModel" "faces" "[I" ∈ wsX4_face := by decide +kernel
theorem mX4_face_f28 : Cond.fieldLink RX4 28 "YearBookModel" "who" "[I" ∈ wsX4_face := by decide +kernel
theorem mX4_face_f31 : Cond.fieldLink RX4 31 "YearBookModel" "x" "[I" ∈ wsX4_face := by decide +kernel
theorem mX4_face_f34 : Cond.fieldLink RX4 34 "YearBookModel" "y" "[I" ∈ wsX4_face := by decide +kernel
theorem mX4_face_f37 : Cond.fieldLink RX4 37 "YearBookModel" "\x72" "[I" ∈ wsX4_face := by decide +kernel
set_option maxHeartbeats 4000000 in
set_option maxRecDepth 100000 in
theorem tX4_face (l : Launch) (dC : Nat → ClassId) (dI : Nat → Nat → Nat) (cI : ClassId) (h : Nat) (ad : Nat → Nat)  (sz : Nat) (post : Int32 → (Nat → Int32) → (Nat → Nat → Int32) → Prop) (p1 : Int32) (p2 : Int32) (p3 : Int32) (p4 : Int32) (p5 : Int32) (I : Nat → Int32) (R : Nat → Nat → Int32) (hq : qX4_face post p1 p2 p3 p4 p5 I R) : Met l yX4_face wsX4_face ({ frames := 2, cells := 0, slots := 0, locals := 43 } : Room) (va_Pc [.ref h, .int p1, .int p2, .int p3, .int p4, .int p5] (wPre (dC, dI) vwCl [(cI, .int)] (wd4 cI h ad I R) sz)) (va_Qi (fun r (u : (Nat → Int32) × (Nat → Nat → Int32)) => post r u.1 u.2) (wAt (dC, dI) vwCl [(cI, .int)] (va_A (wd4 cI h ad I R) sz) (fun u : (Nat → Int32) × (Nat → Nat → Int32) => wd4 cI h ad u.1 u.2)) (va_A (wd4 cI h ad I R) sz)) 0 0 (va_A (wd4 cI h ad I R) sz) := by
  unfold qX4_face at hq
  refine Met.ofW (cc := cX4_face) (maxL := 7) (ret := (some .int)) (by decide) rfl ?_
  intro p e s m args below meth c s₁ B hml hv
  obtain ⟨rfl, hsz, hP, hK, hD0⟩ := hv
  have hx := B.exec
  have hb := B.bytes
  have hr := B.returns
  have hts := atoms_spec (ws := wsX4_face) B.pre
  have hown : s.vm.findClass RX4 = some m.cls := findClass_of_methodNamed B.named
  have hlocks := B.notSynchronized
  subst hsz
  have hD := hD0.self (sz := s.heap.size)
  generalize hAe : va_A (wd4 cI h ad I R) s.heap.size = A at hD ⊢
  have hA : ∀ q : Nat, s.heap.size ≤ q → A q := fun q h => by rw [← hAe]; exact Or.inr h
  have hS : va_S A s.heap s.heap [] := va_S.rf
  have hZ : zX4_face post p1 p2 p3 p4 p5
      (fun (x6 : Int32) (I : Nat → Int32) (R : Nat → Nat → Int32) => ∀ (H : Heap) (locs : List Loc) (ls : Array Slot), va_P (dC, dI) vwCl (wd4 cI h ad I R) H → va_D A (wd4 cI h ad I R) → va_S A s.heap H locs → lv_has ls 7 [(0, .ref h), (1, .int p1), (2, .int p2), (3, .int p3), (4, .int p4), (5, .int p5), (6, .int x6)] → W p l e (headSpec wsX4_face ({ frames := 2, cells := 0, slots := 0, locals := 43 } : Room)).room s m ([.ref h, .int p1, .int p2, .int p3, .int p4, .int p5] : List Value).toArray below meth c H locs 0 0 (MQ below (va_Qi (fun r (u : (Nat → Int32) × (Nat → Nat → Int32)) => post r u.1 u.2) (wAt (dC, dI) vwCl [(cI, .int)] A (fun u : (Nat → Int32) × (Nat → Nat → Int32) => wd4 cI h ad u.1 u.2)) A) ([.ref h, .int p1, .int p2, .int p3, .int p4, .int p5] : List Value).toArray s 0 0 A) (F0 m 69 ls [])) := by
    unfold zX4_face
    intro x6 I R hq H locs ls hP hD hS hl
    refine lv_iload hx hb dX4_face_69 (lv_at hl 6 rfl) ?_
    refine lv_aload_n hx hb dX4_face_71 rfl (lv_at hl 0 rfl) ?_
    refine va_get (D := (dC, dI)) (ci := 4) (v := .ref (ad 6)) (C := RX4) (T := TX4) (N := 27) hx hb hts nX4_face_X4 hown hK hP 0 rfl rfl 6 (by decide) (hts _ mX4_face_f25) (fun _ h9 => h9) rfl dX4_face_72 ?_
    refine lv_iload_n hx hb dX4_face_75 rfl (lv_at hl 1 rfl) ?_
    obtain ⟨hi_7, hq⟩ := hq
    refine va_iald (f := R 6) hx hb hK hP 6 0 rfl rfl hi_7 dX4_face_76 ?_
    refine lv_icmp_ge (tgt := 104) hx hb dX4_face_77 (by decide) (fun hc => ?_) (fun hc => ?_)
    · have hq := hq.1 hc
      refine lv_bipush (v := (8 : Int32)) hx hb dX4_face_104 (by decide) ?_
      refine lv_iload_n hx hb dX4_face_106 rfl (lv_at hl 1 rfl) ?_
      refine lv_imul hx hb dX4_face_107 ?_
      refine lv_aload_n hx hb dX4_face_108 rfl (lv_at hl 0 rfl) ?_
      refine va_get (D := (dC, dI)) (ci := 4) (v := .ref (ad 6)) (C := RX4) (T := TX4) (N := 27) hx hb hts nX4_face_X4 hown hK hP 0 rfl rfl 6 (by decide) (hts _ mX4_face_f25) (fun _ h9 => h9) rfl dX4_face_109 ?_
      refine lv_iload_n hx hb dX4_face_112 rfl (lv_at hl 1 rfl) ?_
      refine va_iald (f := R 6) hx hb hK hP 6 0 rfl rfl hi_7 dX4_face_113 ?_
      refine lv_iadd hx hb dX4_face_114 ?_
      refine lv_topi (fun x6_8 ex6_8 => ?_)
      have hq := hq x6_8 ex6_8
      refine lv_istore (lv' := [(6, .int x6_8), (0, .ref h), (1, .int p1), (2, .int p2), (3, .int p3), (4, .int p4), (5, .int p5)]) hx hb dX4_face_115 hl (by decide) rfl (fun ls hl => ?_)
      refine lv_aload_n hx hb dX4_face_117 rfl (lv_at hl 1 rfl) ?_
      refine va_get (D := (dC, dI)) (ci := 4) (v := .ref (ad 7)) (C := RX4) (T := TX4) (N := 27) hx hb hts nX4_face_X4 hown hK hP 0 rfl rfl 7 (by decide) (hts _ mX4_face_f28) (fun _ h9 => h9) rfl dX4_face_118 ?_
      refine lv_iload hx hb dX4_face_121 (lv_at hl 0 rfl) ?_
      refine lv_iload_n hx hb dX4_face_123 rfl (lv_at hl 3 rfl) ?_
      obtain ⟨hi_9, hq⟩ := hq
      refine va_iast (f := R 7) hx hb hK hP hD hS 7 0 rfl rfl hi_9 dX4_face_124 (fun H locs hP hD hS => ?_)
      rw [wd4_R7] at hP hD
      refine lv_aload_n hx hb dX4_face_125 rfl (lv_at hl 1 rfl) ?_
      refine va_get (D := (dC, dI)) (ci := 4) (v := .ref (ad 8)) (C := RX4) (T := TX4) (N := 27) hx hb hts nX4_face_X4 hown hK hP 0 rfl rfl 8 (by decide) (hts _ mX4_face_f31) (fun _ h9 => h9) rfl dX4_face_126 ?_
      refine lv_iload hx hb dX4_face_129 (lv_at hl 0 rfl) ?_
      refine lv_iload_n hx hb dX4_face_131 rfl (lv_at hl 4 rfl) ?_
      refine va_iast (f := R 8) hx hb hK hP hD hS 8 0 rfl rfl hi_9 dX4_face_132 (fun H locs hP hD hS => ?_)
      rw [wd4_R8] at hP hD
      refine lv_aload_n hx hb dX4_face_133 rfl (lv_at hl 1 rfl) ?_
      refine va_get (D := (dC, dI)) (ci := 4) (v := .ref (ad 9)) (C := RX4) (T := TX4) (N := 27) hx hb hts nX4_face_X4 hown hK hP 0 rfl rfl 9 (by decide) (hts _ mX4_face_f34) (fun _ h9 => h9) rfl dX4_face_134 ?_
      refine lv_iload hx hb dX4_face_137 (lv_at hl 0 rfl) ?_
      refine lv_iload hx hb dX4_face_139 (lv_at hl 5 rfl) ?_
      refine va_iast (f := R 9) hx hb hK hP hD hS 9 0 rfl rfl hi_9 dX4_face_141 (fun H locs hP hD hS => ?_)
      rw [wd4_R9] at hP hD
      refine lv_aload_n hx hb dX4_face_142 rfl (lv_at hl 1 rfl) ?_
      refine va_get (D := (dC, dI)) (ci := 4) (v := .ref (ad 10)) (C := RX4) (T := TX4) (N := 27) hx hb hts nX4_face_X4 hown hK hP 0 rfl rfl 10 (by decide) (hts _ mX4_face_f37) (fun _ h9 => h9) rfl dX4_face_143 ?_
      refine lv_iload hx hb dX4_face_146 (lv_at hl 0 rfl) ?_
      refine lv_iload hx hb dX4_face_148 (lv_at hl 6 rfl) ?_
      refine va_iast (f := R 10) hx hb hK hP hD hS 10 0 rfl rfl hi_9 dX4_face_150 (fun H locs hP hD hS => ?_)
      rw [wd4_R10] at hP hD
      refine lv_aload_n hx hb dX4_face_151 rfl (lv_at hl 1 rfl) ?_
      refine va_get (D := (dC, dI)) (ci := 4) (v := .ref (ad 6)) (C := RX4) (T := TX4) (N := 27) hx hb hts nX4_face_X4 hown hK hP 0 rfl rfl 6 (by decide) (hts _ mX4_face_f25) (fun _ h9 => h9) rfl dX4_face_152 ?_
      refine lv_iload_n hx hb dX4_face_155 rfl (lv_at hl 2 rfl) ?_
      refine lv_dup2_11 hx hb dX4_face_156 rfl rfl ?_
      refine va_iald (f := R 6) hx hb hK hP 6 0 rfl rfl hi_7 dX4_face_157 ?_
      refine lv_iconst (v := (1 : Int32)) hx hb dX4_face_158 (by decide) ?_
      refine lv_iadd hx hb dX4_face_159 ?_
      refine va_iast (f := R 6) hx hb hK hP hD hS 6 0 rfl rfl hi_7 dX4_face_160 (fun H locs hP hD hS => ?_)
      rw [wd4_R6] at hP hD
      refine lv_aload_n hx hb dX4_face_161 rfl (lv_at hl 1 rfl) ?_
      refine va_get (D := (dC, dI)) (ci := 4) (v := .ref (ad 6)) (C := RX4) (T := TX4) (N := 27) hx hb hts nX4_face_X4 hown hK hP 0 rfl rfl 6 (by decide) (hts _ mX4_face_f25) (fun _ h9 => h9) rfl dX4_face_162 ?_
      refine lv_iload_n hx hb dX4_face_165 rfl (lv_at hl 2 rfl) ?_
      refine va_iald (f := upd (R 6) p1.toNatClampNeg ((R 6 p1.toNatClampNeg) + (1 : Int32))) hx hb hK hP 6 0 rfl rfl hi_7 dX4_face_166 ?_
      refine lv_topi (fun v_10 ev_10 => ?_)
      have hq := hq v_10 ev_10
      exact w_iret (post := fun r (u : (Nat → Int32) × (Nat → Nat → Int32)) => post r u.1 u.2) (wf := fun u : (Nat → Int32) × (Nat → Nat → Int32) => wd4 cI h ad u.1 u.2) (u := (I, va_up (va_up (va_up (va_up (va_up R 7 (upd (R 7) x6_8.toNatClampNeg p2)) 8 (upd (R 8) x6_8.toNatClampNeg p3)) 9 (upd (R 9) x6_8.toNatClampNeg p4)) 10 (upd (R 10) x6_8.toNatClampNeg p5)) 6 (upd (R 6) p1.toNatClampNeg ((R 6 p1.toNatClampNeg) + (1 : Int32))))) hx hb hr hK hP hD hS hq dX4_face_167 hlocks
    · have hq := hq.2 hc
      refine lv_aload_n hx hb dX4_face_80 rfl (lv_at hl 0 rfl) ?_
      refine va_get (D := (dC, dI)) (ci := 4) (v := .ref (ad 7)) (C := RX4) (T := TX4) (N := 27) hx hb hts nX4_face_X4 hown hK hP 0 rfl rfl 7 (by decide) (hts _ mX4_face_f28) (fun _ h9 => h9) rfl dX4_face_81 ?_
      refine lv_bipush (v := (8 : Int32)) hx hb dX4_face_84 (by decide) ?_
      refine lv_iload_n hx hb dX4_face_86 rfl (lv_at hl 1 rfl) ?_
      refine lv_imul hx hb dX4_face_87 ?_
      refine lv_iload hx hb dX4_face_88 (lv_at hl 6 rfl) ?_
      refine lv_iadd hx hb dX4_face_90 ?_
      obtain ⟨hi_11, hq⟩ := hq
      refine va_iald (f := R 7) hx hb hK hP 7 0 rfl rfl hi_11 dX4_face_91 ?_
      refine lv_iload_n hx hb dX4_face_92 rfl (lv_at hl 2 rfl) ?_
      refine lv_icmp_ne (tgt := 98) hx hb dX4_face_93 (by decide) (fun hc => ?_) (fun hc => ?_)
      · have hq := hq.1 hc
        refine lv_iinc (v := x6 + (1 : Int32)) (lv' := [(6, .int (x6 + (1 : Int32))), (0, .ref h), (1, .int p1), (2, .int p2), (3, .int p3), (4, .int p4), (5, .int p5)]) hx hb dX4_face_98 hl (k := 6) rfl rfl (by decide) rfl (fun ls hl => ?_)
        refine lv_goto (tgt := 69) hx hb dX4_face_101 (by decide) ?_
        exact hq _ _ ls hP hD hS (lv_sub hl [1, 2, 3, 4, 5, 6, 0] rfl)
      · have hq := hq.2 hc
        refine lv_iconst (v := (-1 : Int32)) hx hb dX4_face_96 (by decide) ?_
        exact w_iret (post := fun r (u : (Nat → Int32) × (Nat → Nat → Int32)) => post r u.1 u.2) (wf := fun u : (Nat → Int32) × (Nat → Nat → Int32) => wd4 cI h ad u.1 u.2) (u := (I, R)) hx hb hr hK hP hD hS hq dX4_face_97 hlocks
  have hl := lv_entry ([.ref h, .int p1, .int p2, .int p3, .int p4, .int p5]) (n := 7) (Nat.le_of_ble_eq_true rfl)
  rw [lg_entry_eq]
  generalize (lg_sl ([.ref h, .int p1, .int p2, .int p3, .int p4, .int p5]) ++ List.replicate (7 - (lg_sl ([.ref h, .int p1, .int p2, .int p3, .int p4, .int p5])).length) Slot.unset).toArray = ls at hl ⊢
  have hl : lv_has ls 7 [(0, .ref h), (1, .int p1), (2, .int p2), (3, .int p3), (4, .int p4), (5, .int p5)] := hl
  refine lv_aload_n hx hb dX4_face_0 rfl (lv_at hl 0 rfl) ?_
  refine lv_iconst (v := (0 : Int32)) hx hb dX4_face_1 (by decide) ?_
  refine va_put (D := (dC, dI)) (ci := 4) (v := .int (0 : Int32)) (ty := .int) (C := RX4) (T := TX4) (N := 27) hx hb hts nX4_face_X4 tyX4 tyX4_ok nmX4 hown hK hP hD hS 0 rfl rfl 19 (by decide) (hts _ mX4_face_f71) (fun _ h9 => h9) rfl (by decide +kernel) rfl rfl (Nat.le_of_ble_eq_true rfl) dX4_face_2 (fun H locs hP hD hS => ?_)
  rw [wd4_I19] at hP hD
  refine lv_aload_n hx hb dX4_face_5 rfl (lv_at hl 0 rfl) ?_
  refine lv_iload_n hx hb dX4_face_6 rfl (lv_at hl 1 rfl) ?_
  obtain ⟨Pc_1, hc, hq⟩ := hq
  refine w_calli (wf := fun _ : Unit => wd4 cI h ad (va_up I 19 (0 : Int32)) R) (va_runV (As := [.int p1]) (rest := []) ⟨hx, hb, hml, hown, hts⟩ (tX4_isPicture l dC dI cI h ad _ Pc_1 p1 (va_up I 19 (0 : Int32)) R hc) (cwV 1 hts gX4_face_X4_isPicture rfl rfl rfl (by decide +kernel) ⟨Nat.le_of_ble_eq_true rfl, Nat.le_of_ble_eq_true rfl⟩) (wPreV hK hP hD (ci := 4) (q0 := 0) rfl rfl) rfl rfl hl.1 rfl (lv_room (Nat.le_of_ble_eq_true rfl)) dX4_face_7 ⟨Nat.le_of_ble_eq_true rfl, Nat.le_of_ble_eq_true rfl⟩) hD hS hA (fun rc_1 u H locs hp hP hD hS => ?_)
  have hq := hq rc_1 hp
  have hP : va_P (dC, dI) vwCl (wd4 cI h ad (va_up I 19 (0 : Int32)) R) H := hP
  have hD : va_D A (wd4 cI h ad (va_up I 19 (0 : Int32)) R) := hD
  refine lv_if_eq (tgt := 64) hx hb dX4_face_10 (by decide) (fun hc => ?_) (fun hc => ?_)
  · have hq := hq.1 hc
    refine lv_iconst (v := (-1 : Int32)) hx hb dX4_face_64 (by decide) ?_
    exact w_iret (post := fun r (u : (Nat → Int32) × (Nat → Nat → Int32)) => post r u.1 u.2) (wf := fun u : (Nat → Int32) × (Nat → Nat → Int32) => wd4 cI h ad u.1 u.2) (u := (va_up I 19 (0 : Int32), R)) hx hb hr hK hP hD hS hq dX4_face_65 hlocks
  · have hq := hq.2 hc
    refine lv_aload_n hx hb dX4_face_13 rfl (lv_at hl 0 rfl) ?_
    refine lv_iload_n hx hb dX4_face_14 rfl (lv_at hl 2 rfl) ?_
    obtain ⟨Pc_2, hc, hq⟩ := hq
    refine w_calli (wf := fun _ : Unit => wd4 cI h ad (va_up I 19 (0 : Int32)) R) (va_runV (As := [.int p2]) (rest := []) ⟨hx, hb, hml, hown, hts⟩ (tX4_isChild l dC dI cI h ad _ Pc_2 p2 (va_up I 19 (0 : Int32)) R hc) (cwV 1 hts gX4_face_X4_isChild rfl rfl rfl (by decide +kernel) ⟨Nat.le_of_ble_eq_true rfl, Nat.le_of_ble_eq_true rfl⟩) (wPreV hK hP hD (ci := 4) (q0 := 0) rfl rfl) rfl rfl hl.1 rfl (lv_room (Nat.le_of_ble_eq_true rfl)) dX4_face_15 ⟨Nat.le_of_ble_eq_true rfl, Nat.le_of_ble_eq_true rfl⟩) hD hS hA (fun rc_2 u H locs hp hP hD hS => ?_)
    have hq := hq rc_2 hp
    have hP : va_P (dC, dI) vwCl (wd4 cI h ad (va_up I 19 (0 : Int32)) R) H := hP
    have hD : va_D A (wd4 cI h ad (va_up I 19 (0 : Int32)) R) := hD
    refine lv_if_eq (tgt := 64) hx hb dX4_face_18 (by decide) (fun hc => ?_) (fun hc => ?_)
    · have hq := hq.1 hc
      refine lv_iconst (v := (-1 : Int32)) hx hb dX4_face_64 (by decide) ?_
      exact w_iret (post := fun r (u : (Nat → Int32) × (Nat → Nat → Int32)) => post r u.1 u.2) (wf := fun u : (Nat → Int32) × (Nat → Nat → Int32) => wd4 cI h ad u.1 u.2) (u := (va_up I 19 (0 : Int32), R)) hx hb hr hK hP hD hS hq dX4_face_65 hlocks
    · have hq := hq.2 hc
      refine lv_iload_n hx hb dX4_face_21 rfl (lv_at hl 3 rfl) ?_
      refine lv_iconst (v := (0 : Int32)) hx hb dX4_face_22 (by decide) ?_
      refine lv_bipush (v := (99 : Int32)) hx hb dX4_face_23 (by decide) ?_
      obtain ⟨Pc_3, hc, hq⟩ := hq
      refine vp_callSi (W.runS (As := [.int p3, .int (0 : Int32), .int (99 : Int32)]) (rest := []) ⟨hx, hb, hml, hown, hts⟩ (tX4_in l Pc_3 p3 (0 : Int32) (99 : Int32) hc) (va_cwS 3 hts gX4_face_X4_in rfl rfl rfl (by decide +kernel) ⟨Nat.le_of_ble_eq_true rfl, Nat.le_of_ble_eq_true rfl⟩) preEq rfl rfl hl.1 rfl (lv_room (Nat.le_of_ble_eq_true rfl)) dX4_face_25 ⟨Nat.le_of_ble_eq_true rfl, Nat.le_of_ble_eq_true rfl⟩) (fun rc_3 hp => ?_)
      have hq := hq rc_3 hp
      refine lv_if_eq (tgt := 64) hx hb dX4_face_28 (by decide) (fun hc => ?_) (fun hc => ?_)
      · have hq := hq.1 hc
        refine lv_iconst (v := (-1 : Int32)) hx hb dX4_face_64 (by decide) ?_
        exact w_iret (post := fun r (u : (Nat → Int32) × (Nat → Nat → Int32)) => post r u.1 u.2) (wf := fun u : (Nat → Int32) × (Nat → Nat → Int32) => wd4 cI h ad u.1 u.2) (u := (va_up I 19 (0 : Int32), R)) hx hb hr hK hP hD hS hq dX4_face_65 hlocks
      · have hq := hq.2 hc
        refine lv_iload hx hb dX4_face_31 (lv_at hl 4 rfl) ?_
        refine lv_iconst (v := (0 : Int32)) hx hb dX4_face_33 (by decide) ?_
        refine lv_bipush (v := (99 : Int32)) hx hb dX4_face_34 (by decide) ?_
        obtain ⟨Pc_4, hc, hq⟩ := hq
        refine vp_callSi (W.runS (As := [.int p4, .int (0 : Int32), .int (99 : Int32)]) (rest := []) ⟨hx, hb, hml, hown, hts⟩ (tX4_in l Pc_4 p4 (0 : Int32) (99 : Int32) hc) (va_cwS 3 hts gX4_face_X4_in rfl rfl rfl (by decide +kernel) ⟨Nat.le_of_ble_eq_true rfl, Nat.le_of_ble_eq_true rfl⟩) preEq rfl rfl hl.1 rfl (lv_room (Nat.le_of_ble_eq_true rfl)) dX4_face_36 ⟨Nat.le_of_ble_eq_true rfl, Nat.le_of_ble_eq_true rfl⟩) (fun rc_4 hp => ?_)
        have hq := hq rc_4 hp
        refine lv_if_eq (tgt := 64) hx hb dX4_face_39 (by decide) (fun hc => ?_) (fun hc => ?_)
        · have hq := hq.1 hc
          refine lv_iconst (v := (-1 : Int32)) hx hb dX4_face_64 (by decide) ?_
          exact w_iret (post := fun r (u : (Nat → Int32) × (Nat → Nat → Int32)) => post r u.1 u.2) (wf := fun u : (Nat → Int32) × (Nat → Nat → Int32) => wd4 cI h ad u.1 u.2) (u := (va_up I 19 (0 : Int32), R)) hx hb hr hK hP hD hS hq dX4_face_65 hlocks
        · have hq := hq.2 hc
          refine lv_iload hx hb dX4_face_42 (lv_at hl 5 rfl) ?_
          refine lv_iconst (v := (0 : Int32)) hx hb dX4_face_44 (by decide) ?_
          refine lv_bipush (v := (20 : Int32)) hx hb dX4_face_45 (by decide) ?_
          obtain ⟨Pc_5, hc, hq⟩ := hq
          refine vp_callSi (W.runS (As := [.int p5, .int (0 : Int32), .int (20 : Int32)]) (rest := []) ⟨hx, hb, hml, hown, hts⟩ (tX4_in l Pc_5 p5 (0 : Int32) (20 : Int32) hc) (va_cwS 3 hts gX4_face_X4_in rfl rfl rfl (by decide +kernel) ⟨Nat.le_of_ble_eq_true rfl, Nat.le_of_ble_eq_true rfl⟩) preEq rfl rfl hl.1 rfl (lv_room (Nat.le_of_ble_eq_true rfl)) dX4_face_47 ⟨Nat.le_of_ble_eq_true rfl, Nat.le_of_ble_eq_true rfl⟩) (fun rc_5 hp => ?_)
          have hq := hq rc_5 hp
          refine lv_if_eq (tgt := 64) hx hb dX4_face_50 (by decide) (fun hc => ?_) (fun hc => ?_)
          · have hq := hq.1 hc
            refine lv_iconst (v := (-1 : Int32)) hx hb dX4_face_64 (by decide) ?_
            exact w_iret (post := fun r (u : (Nat → Int32) × (Nat → Nat → Int32)) => post r u.1 u.2) (wf := fun u : (Nat → Int32) × (Nat → Nat → Int32) => wd4 cI h ad u.1 u.2) (u := (va_up I 19 (0 : Int32), R)) hx hb hr hK hP hD hS hq dX4_face_65 hlocks
          · have hq := hq.2 hc
            refine lv_aload_n hx hb dX4_face_53 rfl (lv_at hl 0 rfl) ?_
            refine va_get (D := (dC, dI)) (ci := 4) (v := .ref (ad 6)) (C := RX4) (T := TX4) (N := 27) hx hb hts nX4_face_X4 hown hK hP 0 rfl rfl 6 (by decide) (hts _ mX4_face_f25) (fun _ h9 => h9) rfl dX4_face_54 ?_
            refine lv_iload_n hx hb dX4_face_57 rfl (lv_at hl 1 rfl) ?_
            obtain ⟨hi_6, hq⟩ := hq
            refine va_iald (f := R 6) hx hb hK hP 6 0 rfl rfl hi_6 dX4_face_58 ?_
            refine lv_bipush (v := (8 : Int32)) hx hb dX4_face_59 (by decide) ?_
            refine lv_icmp_ne (tgt := 66) hx hb dX4_face_61 (by decide) (fun hc => ?_) (fun hc => ?_)
            · have hq := hq.1 hc
              refine lv_iconst (v := (0 : Int32)) hx hb dX4_face_66 (by decide) ?_
              refine lv_istore (lv' := [(6, .int (0 : Int32)), (0, .ref h), (1, .int p1), (2, .int p2), (3, .int p3), (4, .int p4), (5, .int p5)]) hx hb dX4_face_67 hl (by decide) rfl (fun ls hl => ?_)
              exact hq _ hZ _ _ ls hP hD hS (lv_sub hl [1, 2, 3, 4, 5, 6, 0] rfl)
            · have hq := hq.2 hc
              refine lv_iconst (v := (-1 : Int32)) hx hb dX4_face_64 (by decide) ?_
              exact w_iret (post := fun r (u : (Nat → Int32) × (Nat → Nat → Int32)) => post r u.1 u.2) (wf := fun u : (Nat → Int32) × (Nat → Nat → Int32) => wd4 cI h ad u.1 u.2) (u := (va_up I 19 (0 : Int32), R)) hx hb hr hK hP hD hS hq dX4_face_65 hlocks
def zX4_pack (post : (Nat → Int32) → (Nat → Nat → Int32) → Prop) (p1 : Int32) (X2 : Int32 → (Nat → Int32) → (Nat → Nat → Int32) → Prop) (X15 : Int32 → Int32 → (Nat → Int32) → (Nat → Nat → Int32) → Prop) (X74 : Int32 → (Nat → Int32) → (Nat → Nat → Int32) → Prop) (X100 : Int32 → Int32 → Int32 → Int32 → (Nat → Int32) → (Nat → Nat → Int32) → Prop) (X141 : Int32 → Int32 → Int32 → Int32 → (Nat → Int32) → (Nat → Nat → Int32) → Prop) : Prop :=
  (∀ (x2 : Int32) (I : Nat → Int32) (R : Nat → Nat → Int32), (((x2 ≤ 0) → (∀ x2_1 : Int32, x2_1 = (-p1) &&& p1 → (X74 x2_1 I (va_up R 25 (upd (R 25) 0 (0 : Int32)))))) ∧ ((¬ x2 ≤ 0) → (vp_in x2 16384 ∧ (X15 x2 (0 : Int32) I (va_up R 24 (upd (R 24) x2.toNatClampNeg (0 : Int32))))))) → X2 x2 I R) ∧
  (∀ (x2 : Int32) (x3 : Int32) (I : Nat → Int32) (R : Nat → Nat → Int32), ((((I 11) ≤ x3) → (∀ x2_3 : Int32, x2_3 = (x2 - (1 : Int32)) &&& p1 → (X2 x2_3 I R))) ∧ ((¬ (I 11) ≤ x3) → (((¬ ((x2 >>> (x3 &&& 31)) &&& (1 : Int32)) = (1 : Int32)) → (X15 x2 (x3 + (1 : Int32)) I R)) ∧ ((((x2 >>> (x3 &&& 31)) &&& (1 : Int32)) = (1 : Int32)) → (vp_in x2 16384 ∧ (vp_in x3 14 ∧ (X15 x2 (x3 + (1 : Int32)) I (va_up R 24 (upd (R 24) x2.toNatClampNeg ((R 24 x2.toNatClampNeg) + (R 5 x3.toNatClampNeg))))))))))) → X15 x2 x3 I R) ∧
  (∀ (x2 : Int32) (I : Nat → Int32) (R : Nat → Nat → Int32), (((x2 = 0) → (post I R)) ∧ ((¬ x2 = 0) → (vp_in x2 16384 ∧ (∀ x3_7 : Int32, x3_7 = x2 &&& (-x2) → (∀ x4_8 : Int32, x4_8 = x2 ^^^ x3_7 → (X100 x2 x3_7 x4_8 x4_8 I (va_up R 25 (upd (R 25) x2.toNatClampNeg (15 : Int32))))))))) → X74 x2 I R) ∧
  (∀ (x2 : Int32) (x3 : Int32) (x4 : Int32) (x5 : Int32) (I : Nat → Int32) (R : Nat → Nat → Int32), (vp_in (x5 ||| x3) 16384 ∧ ((((12 : Int32) < (R 24 (x5 ||| x3).toNatClampNeg)) → (X141 x2 x3 x4 x5 I R)) ∧ ((¬ (12 : Int32) < (R 24 (x5 ||| x3).toNatClampNeg)) → (vp_in x2 16384 ∧ (vp_in (x4 ^^^ x5) 16384 ∧ (∀ v_12 : Int32, v_12 = (if (1 : Int32) + (R 25 (x4 ^^^ x5).toNatClampNeg) < R 25 x2.toNatClampNeg then (1 : Int32) + (R 25 (x4 ^^^ x5).toNatClampNeg) else R 25 x2.toNatClampNeg) → (X141 x2 x3 x4 x5 I (va_up R 25 (upd (R 25) x2.toNatClampNeg v_12))))))))) → X100 x2 x3 x4 x5 I R) ∧
  (∀ (x2 : Int32) (x3 : Int32) (x4 : Int32) (x5 : Int32) (I : Nat → Int32) (R : Nat → Nat → Int32), (((¬ x5 = 0) → (∀ x5_13 : Int32, x5_13 = (x5 - (1 : Int32)) &&& x4 → (X100 x2 x3 x4 x5_13 I R))) ∧ ((x5 = 0) → (∀ x2_14 : Int32, x2_14 = (x2 - p1) &&& p1 → (X74 x2_14 I R)))) → X141 x2 x3 x4 x5 I R)
def qX4_pack_2 (post : (Nat → Int32) → (Nat → Nat → Int32) → Prop) (p1 : Int32) (x2 : Int32) (I : Nat → Int32) (R : Nat → Nat → Int32) : Prop := ∀ (X2 : Int32 → (Nat → Int32) → (Nat → Nat → Int32) → Prop) (X15 : Int32 → Int32 → (Nat → Int32) → (Nat → Nat → Int32) → Prop) (X74 : Int32 → (Nat → Int32) → (Nat → Nat → Int32) → Prop) (X100 : Int32 → Int32 → Int32 → Int32 → (Nat → Int32) → (Nat → Nat → Int32) → Prop) (X141 : Int32 → Int32 → Int32 → Int32 → (Nat → Int32) → (Nat → Nat → Int32) → Prop), zX4_pack post p1 X2 X15 X74 X100 X141 → X2 x2 I R
def qX4_pack_15 (post : (Nat → Int32) → (Nat → Nat → Int32) → Prop) (p1 : Int32) (x2 : Int32) (x3 : Int32) (I : Nat → Int32) (R : Nat → Nat → Int32) : Prop := ∀ (X2 : Int32 → (Nat → Int32) → (Nat → Nat → Int32) → Prop) (X15 : Int32 → Int32 → (Nat → Int32) → (Nat → Nat → Int32) → Prop) (X74 : Int32 → (Nat → Int32) → (Nat → Nat → Int32) → Prop) (X100 : Int32 → Int32 → Int32 → Int32 → (Nat → Int32) → (Nat → Nat → Int32) → Prop) (X141 : Int32 → Int32 → Int32 → Int32 → (Nat → Int32) → (Nat → Nat → Int32) → Prop), zX4_pack post p1 X2 X15 X74 X100 X141 → X15 x2 x3 I R
def qX4_pack_74 (post : (Nat → Int32) → (Nat → Nat → Int32) → Prop) (p1 : Int32) (x2 : Int32) (I : Nat → Int32) (R : Nat → Nat → Int32) : Prop := ∀ (X2 : Int32 → (Nat → Int32) → (Nat → Nat → Int32) → Prop) (X15 : Int32 → Int32 → (Nat → Int32) → (Nat → Nat → Int32) → Prop) (X74 : Int32 → (Nat → Int32) → (Nat → Nat → Int32) → Prop) (X100 : Int32 → Int32 → Int32 → Int32 → (Nat → Int32) → (Nat → Nat → Int32) → Prop) (X141 : Int32 → Int32 → Int32 → Int32 → (Nat → Int32) → (Nat → Nat → Int32) → Prop), zX4_pack post p1 X2 X15 X74 X100 X141 → X74 x2 I R
def qX4_pack_100 (post : (Nat → Int32) → (Nat → Nat → Int32) → Prop) (p1 : Int32) (x2 : Int32) (x3 : Int32) (x4 : Int32) (x5 : Int32) (I : Nat → Int32) (R : Nat → Nat → Int32) : Prop := ∀ (X2 : Int32 → (Nat → Int32) → (Nat → Nat → Int32) → Prop) (X15 : Int32 → Int32 → (Nat → Int32) → (Nat → Nat → Int32) → Prop) (X74 : Int32 → (Nat → Int32) → (Nat → Nat → Int32) → Prop) (X100 : Int32 → Int32 → Int32 → Int32 → (Nat → Int32) → (Nat → Nat → Int32) → Prop) (X141 : Int32 → Int32 → Int32 → Int32 → (Nat → Int32) → (Nat → Nat → Int32) → Prop), zX4_pack post p1 X2 X15 X74 X100 X141 → X100 x2 x3 x4 x5 I R
def qX4_pack_141 (post : (Nat → Int32) → (Nat → Nat → Int32) → Prop) (p1 : Int32) (x2 : Int32) (x3 : Int32) (x4 : Int32) (x5 : Int32) (I : Nat → Int32) (R : Nat → Nat → Int32) : Prop := ∀ (X2 : Int32 → (Nat → Int32) → (Nat → Nat → Int32) → Prop) (X15 : Int32 → Int32 → (Nat → Int32) → (Nat → Nat → Int32) → Prop) (X74 : Int32 → (Nat → Int32) → (Nat → Nat → Int32) → Prop) (X100 : Int32 → Int32 → Int32 → Int32 → (Nat → Int32) → (Nat → Nat → Int32) → Prop) (X141 : Int32 → Int32 → Int32 → Int32 → (Nat → Int32) → (Nat → Nat → Int32) → Prop), zX4_pack post p1 X2 X15 X74 X100 X141 → X141 x2 x3 x4 x5 I R
theorem kX4_pack_2 {post : (Nat → Int32) → (Nat → Nat → Int32) → Prop} {p1 : Int32} {x2 : Int32} {I : Nat → Int32} {R : Nat → Nat → Int32} (h : ((x2 ≤ 0) → (∀ x2_1 : Int32, x2_1 = (-p1) &&& p1 → (qX4_pack_74 post p1 x2_1 I (va_up R 25 (upd (R 25) 0 (0 : Int32)))))) ∧ ((¬ x2 ≤ 0) → (vp_in x2 16384 ∧ (qX4_pack_15 post p1 x2 (0 : Int32) I (va_up R 24 (upd (R 24) x2.toNatClampNeg (0 : Int32))))))) : qX4_pack_2 post p1 x2 I R := by
  intro Z2 Z15 Z74 Z100 Z141 hcl
  refine hcl.1 x2 I R ?_
  refine ⟨fun c => ?_, fun c => ?_⟩
  · have h := h.1 c
    intro x e
    have h := h x e
    exact h _ _ _ _ _ hcl
  · have h := h.2 c
    refine ⟨h.1, ?_⟩
    have h := h.2
    exact h _ _ _ _ _ hcl
theorem kX4_pack_15 {post : (Nat → Int32) → (Nat → Nat → Int32) → Prop} {p1 : Int32} {x2 : Int32} {x3 : Int32} {I : Nat → Int32} {R : Nat → Nat → Int32} (h : (((I 11) ≤ x3) → (∀ x2_3 : Int32, x2_3 = (x2 - (1 : Int32)) &&& p1 → (qX4_pack_2 post p1 x2_3 I R))) ∧ ((¬ (I 11) ≤ x3) → (((¬ ((x2 >>> (x3 &&& 31)) &&& (1 : Int32)) = (1 : Int32)) → (qX4_pack_15 post p1 x2 (x3 + (1 : Int32)) I R)) ∧ ((((x2 >>> (x3 &&& 31)) &&& (1 : Int32)) = (1 : Int32)) → (vp_in x2 16384 ∧ (vp_in x3 14 ∧ (qX4_pack_15 post p1 x2 (x3 + (1 : Int32)) I (va_up R 24 (upd (R 24) x2.toNatClampNeg ((R 24 x2.toNatClampNeg) + (R 5 x3.toNatClampNeg))))))))))) : qX4_pack_15 post p1 x2 x3 I R := by
  intro Z2 Z15 Z74 Z100 Z141 hcl
  refine hcl.2.1 x2 x3 I R ?_
  refine ⟨fun c => ?_, fun c => ?_⟩
  · have h := h.1 c
    intro x e
    have h := h x e
    exact h _ _ _ _ _ hcl
  · have h := h.2 c
    refine ⟨fun c => ?_, fun c => ?_⟩
    · have h := h.1 c
      exact h _ _ _ _ _ hcl
    · have h := h.2 c
      refine ⟨h.1, ?_⟩
      have h := h.2
      refine ⟨h.1, ?_⟩
      have h := h.2
      exact h _ _ _ _ _ hcl
theorem kX4_pack_74 {post : (Nat → Int32) → (Nat → Nat → Int32) → Prop} {p1 : Int32} {x2 : Int32} {I : Nat → Int32} {R : Nat → Nat → Int32} (h : ((x2 = 0) → (post I R)) ∧ ((¬ x2 = 0) → (vp_in x2 16384 ∧ (∀ x3_7 : Int32, x3_7 = x2 &&& (-x2) → (∀ x4_8 : Int32, x4_8 = x2 ^^^ x3_7 → (qX4_pack_100 post p1 x2 x3_7 x4_8 x4_8 I (va_up R 25 (upd (R 25) x2.toNatClampNeg (15 : Int32))))))))) : qX4_pack_74 post p1 x2 I R := by
  intro Z2 Z15 Z74 Z100 Z141 hcl
  refine hcl.2.2.1 x2 I R ?_
  refine ⟨fun c => ?_, fun c => ?_⟩
  · have h := h.1 c
    exact h
  · have h := h.2 c
    refine ⟨h.1, ?_⟩
    have h := h.2
    intro x e
    have h := h x e
    intro x e
    have h := h x e
    exact h _ _ _ _ _ hcl
theorem kX4_pack_100 {post : (Nat → Int32) → (Nat → Nat → Int32) → Prop} {p1 : Int32} {x2 : Int32} {x3 : Int32} {x4 : Int32} {x5 : Int32} {I : Nat → Int32} {R : Nat → Nat → Int32} (h : vp_in (x5 ||| x3) 16384 ∧ ((((12 : Int32) < (R 24 (x5 ||| x3).toNatClampNeg)) → (qX4_pack_141 post p1 x2 x3 x4 x5 I R)) ∧ ((¬ (12 : Int32) < (R 24 (x5 ||| x3).toNatClampNeg)) → (vp_in x2 16384 ∧ (vp_in (x4 ^^^ x5) 16384 ∧ (∀ v_12 : Int32, v_12 = (if (1 : Int32) + (R 25 (x4 ^^^ x5).toNatClampNeg) < R 25 x2.toNatClampNeg then (1 : Int32) + (R 25 (x4 ^^^ x5).toNatClampNeg) else R 25 x2.toNatClampNeg) → (qX4_pack_141 post p1 x2 x3 x4 x5 I (va_up R 25 (upd (R 25) x2.toNatClampNeg v_12))))))))) : qX4_pack_100 post p1 x2 x3 x4 x5 I R := by
  intro Z2 Z15 Z74 Z100 Z141 hcl
  refine hcl.2.2.2.1 x2 x3 x4 x5 I R ?_
  refine ⟨h.1, ?_⟩
  have h := h.2
  refine ⟨fun c => ?_, fun c => ?_⟩
  · have h := h.1 c
    exact h _ _ _ _ _ hcl
  · have h := h.2 c
    refine ⟨h.1, ?_⟩
    have h := h.2
    refine ⟨h.1, ?_⟩
    have h := h.2
    intro x e
    have h := h x e
    exact h _ _ _ _ _ hcl
theorem kX4_pack_141 {post : (Nat → Int32) → (Nat → Nat → Int32) → Prop} {p1 : Int32} {x2 : Int32} {x3 : Int32} {x4 : Int32} {x5 : Int32} {I : Nat → Int32} {R : Nat → Nat → Int32} (h : ((¬ x5 = 0) → (∀ x5_13 : Int32, x5_13 = (x5 - (1 : Int32)) &&& x4 → (qX4_pack_100 post p1 x2 x3 x4 x5_13 I R))) ∧ ((x5 = 0) → (∀ x2_14 : Int32, x2_14 = (x2 - p1) &&& p1 → (qX4_pack_74 post p1 x2_14 I R)))) : qX4_pack_141 post p1 x2 x3 x4 x5 I R := by
  intro Z2 Z15 Z74 Z100 Z141 hcl
  refine hcl.2.2.2.2 x2 x3 x4 x5 I R ?_
  refine ⟨fun c => ?_, fun c => ?_⟩
  · have h := h.1 c
    intro x e
    have h := h x e
    exact h _ _ _ _ _ hcl
  · have h := h.2 c
    intro x e
    have h := h x e
    exact h _ _ _ _ _ hcl
def qX4_pack (post : (Nat → Int32) → (Nat → Nat → Int32) → Prop) (p1 : Int32) (I : Nat → Int32) (R : Nat → Nat → Int32) : Prop := qX4_pack_2 post p1 p1 I R
theorem mX4_pack_f65 : Cond.fieldLink RX4 65 "YearBookModel" "least" "[I" ∈ wsX4_pack := by decide +kernel
theorem nX4_pack_X4 : ∀ w ∈ u_ws RX4 TX4 27, w ∈ wsX4_pack := by decide +kernel
theorem mX4_pack_f62 : Cond.fieldLink RX4 62 "YearBookModel" "points" "[I" ∈ wsX4_pack := by decide +kernel
theorem mX4_pack_f74 : Cond.fieldLink RX4 74 "YearBookModel" "pictures" "I" ∈ wsX4_pack := by decide +kernel
theorem mX4_pack_f22 : Cond.fieldLink RX4 22 "YearBookModel" "size" "[I" ∈ wsX4_pack := by decide +kernel
theorem mX4_pack_m156 : Cond.methodLink RX4 156 Lib.Math.min.name ∈ wsX4_pack := by decide +kernel
theorem mX4_pack_s156 : Cond.static Lib.Math.min.name ∈ wsX4_pack := by decide +kernel
theorem mX4_pack_iMath : Cond.initialized "java/lang/Math" ∈ wsX4_pack := by decide +kernel
theorem mX4_pack_k156 : Cond.code Lib.Math.min.name Lib.Math.min.code 2 (some .int) ∈ wsX4_pack := by decide +kernel
set_option maxHeartbeats 4000000 in
set_option maxRecDepth 100000 in
theorem tX4_pack (l : Launch) (dC : Nat → ClassId) (dI : Nat → Nat → Nat) (cI : ClassId) (h : Nat) (ad : Nat → Nat)  (sz : Nat) (post : (Nat → Int32) → (Nat → Nat → Int32) → Prop) (p1 : Int32) (I : Nat → Int32) (R : Nat → Nat → Int32) (hq : qX4_pack post p1 I R) : Met l yX4_pack wsX4_pack ({ frames := 1, cells := 0, slots := 0, locals := 30 } : Room) (va_Pc [.ref h, .int p1] (wPre (dC, dI) vwCl [(cI, .int)] (wd4 cI h ad I R) sz)) (va_Qv (fun (u : (Nat → Int32) × (Nat → Nat → Int32)) => post u.1 u.2) (wAt (dC, dI) vwCl [(cI, .int)] (va_A (wd4 cI h ad I R) sz) (fun u : (Nat → Int32) × (Nat → Nat → Int32) => wd4 cI h ad u.1 u.2)) (va_A (wd4 cI h ad I R) sz)) 0 0 (va_A (wd4 cI h ad I R) sz) := by
  unfold qX4_pack at hq
  refine Met.ofW (cc := cX4_pack) (maxL := 6) (ret := none) (by decide) rfl ?_
  intro p e s m args below meth c s₁ B hml hv
  obtain ⟨rfl, hsz, hP, hK, hD0⟩ := hv
  have hx := B.exec
  have hb := B.bytes
  have hr := B.returns
  have hts := atoms_spec (ws := wsX4_pack) B.pre
  have hown : s.vm.findClass RX4 = some m.cls := findClass_of_methodNamed B.named
  have hlocks := B.notSynchronized
  subst hsz
  have hD := hD0.self (sz := s.heap.size)
  generalize hAe : va_A (wd4 cI h ad I R) s.heap.size = A at hD ⊢
  have hA : ∀ q : Nat, s.heap.size ≤ q → A q := fun q h => by rw [← hAe]; exact Or.inr h
  have hS : va_S A s.heap s.heap [] := va_S.rf
  have hZ : zX4_pack post p1
      (fun (x2 : Int32) (I : Nat → Int32) (R : Nat → Nat → Int32) => ∀ (H : Heap) (locs : List Loc) (ls : Array Slot), va_P (dC, dI) vwCl (wd4 cI h ad I R) H → va_D A (wd4 cI h ad I R) → va_S A s.heap H locs → lv_has ls 6 [(0, .ref h), (1, .int p1), (2, .int x2)] → W p l e (headSpec wsX4_pack ({ frames := 1, cells := 0, slots := 0, locals := 30 } : Room)).room s m ([.ref h, .int p1] : List Value).toArray below meth c H locs 0 0 (MQ below (va_Qv (fun (u : (Nat → Int32) × (Nat → Nat → Int32)) => post u.1 u.2) (wAt (dC, dI) vwCl [(cI, .int)] A (fun u : (Nat → Int32) × (Nat → Nat → Int32) => wd4 cI h ad u.1 u.2)) A) ([.ref h, .int p1] : List Value).toArray s 0 0 A) (F0 m 2 ls []))
      (fun (x2 : Int32) (x3 : Int32) (I : Nat → Int32) (R : Nat → Nat → Int32) => ∀ (H : Heap) (locs : List Loc) (ls : Array Slot), va_P (dC, dI) vwCl (wd4 cI h ad I R) H → va_D A (wd4 cI h ad I R) → va_S A s.heap H locs → lv_has ls 6 [(0, .ref h), (1, .int p1), (2, .int x2), (3, .int x3)] → W p l e (headSpec wsX4_pack ({ frames := 1, cells := 0, slots := 0, locals := 30 } : Room)).room s m ([.ref h, .int p1] : List Value).toArray below meth c H locs 0 0 (MQ below (va_Qv (fun (u : (Nat → Int32) × (Nat → Nat → Int32)) => post u.1 u.2) (wAt (dC, dI) vwCl [(cI, .int)] A (fun u : (Nat → Int32) × (Nat → Nat → Int32) => wd4 cI h ad u.1 u.2)) A) ([.ref h, .int p1] : List Value).toArray s 0 0 A) (F0 m 15 ls []))
      (fun (x2 : Int32) (I : Nat → Int32) (R : Nat → Nat → Int32) => ∀ (H : Heap) (locs : List Loc) (ls : Array Slot), va_P (dC, dI) vwCl (wd4 cI h ad I R) H → va_D A (wd4 cI h ad I R) → va_S A s.heap H locs → lv_has ls 6 [(0, .ref h), (1, .int p1), (2, .int x2)] → W p l e (headSpec wsX4_pack ({ frames := 1, cells := 0, slots := 0, locals := 30 } : Room)).room s m ([.ref h, .int p1] : List Value).toArray below meth c H locs 0 0 (MQ below (va_Qv (fun (u : (Nat → Int32) × (Nat → Nat → Int32)) => post u.1 u.2) (wAt (dC, dI) vwCl [(cI, .int)] A (fun u : (Nat → Int32) × (Nat → Nat → Int32) => wd4 cI h ad u.1 u.2)) A) ([.ref h, .int p1] : List Value).toArray s 0 0 A) (F0 m 74 ls []))
      (fun (x2 : Int32) (x3 : Int32) (x4 : Int32) (x5 : Int32) (I : Nat → Int32) (R : Nat → Nat → Int32) => ∀ (H : Heap) (locs : List Loc) (ls : Array Slot), va_P (dC, dI) vwCl (wd4 cI h ad I R) H → va_D A (wd4 cI h ad I R) → va_S A s.heap H locs → lv_has ls 6 [(0, .ref h), (1, .int p1), (2, .int x2), (3, .int x3), (4, .int x4), (5, .int x5)] → W p l e (headSpec wsX4_pack ({ frames := 1, cells := 0, slots := 0, locals := 30 } : Room)).room s m ([.ref h, .int p1] : List Value).toArray below meth c H locs 0 0 (MQ below (va_Qv (fun (u : (Nat → Int32) × (Nat → Nat → Int32)) => post u.1 u.2) (wAt (dC, dI) vwCl [(cI, .int)] A (fun u : (Nat → Int32) × (Nat → Nat → Int32) => wd4 cI h ad u.1 u.2)) A) ([.ref h, .int p1] : List Value).toArray s 0 0 A) (F0 m 100 ls []))
      (fun (x2 : Int32) (x3 : Int32) (x4 : Int32) (x5 : Int32) (I : Nat → Int32) (R : Nat → Nat → Int32) => ∀ (H : Heap) (locs : List Loc) (ls : Array Slot), va_P (dC, dI) vwCl (wd4 cI h ad I R) H → va_D A (wd4 cI h ad I R) → va_S A s.heap H locs → lv_has ls 6 [(0, .ref h), (1, .int p1), (2, .int x2), (3, .int x3), (4, .int x4), (5, .int x5)] → W p l e (headSpec wsX4_pack ({ frames := 1, cells := 0, slots := 0, locals := 30 } : Room)).room s m ([.ref h, .int p1] : List Value).toArray below meth c H locs 0 0 (MQ below (va_Qv (fun (u : (Nat → Int32) × (Nat → Nat → Int32)) => post u.1 u.2) (wAt (dC, dI) vwCl [(cI, .int)] A (fun u : (Nat → Int32) × (Nat → Nat → Int32) => wd4 cI h ad u.1 u.2)) A) ([.ref h, .int p1] : List Value).toArray s 0 0 A) (F0 m 141 ls [])) := by
    refine ⟨?_, ?_, ?_, ?_, ?_⟩
    · intro x2 I R hq H locs ls hP hD hS hl
      refine lv_iload_n hx hb dX4_pack_2 rfl (lv_at hl 2 rfl) ?_
      refine lv_if_le (tgt := 62) hx hb dX4_pack_3 (by decide) (fun hc => ?_) (fun hc => ?_)
      · have hq := hq.1 hc
        refine lv_aload_n hx hb dX4_pack_62 rfl (lv_at hl 0 rfl) ?_
        refine va_get (D := (dC, dI)) (ci := 4) (v := .ref (ad 25)) (C := RX4) (T := TX4) (N := 27) hx hb hts nX4_pack_X4 hown hK hP 0 rfl rfl 25 (by decide) (hts _ mX4_pack_f65) (fun _ h9 => h9) rfl dX4_pack_63 ?_
        refine lv_iconst (v := (0 : Int32)) hx hb dX4_pack_66 (by decide) ?_
        refine lv_iconst (v := (0 : Int32)) hx hb dX4_pack_67 (by decide) ?_
        refine va_iastk (f := R 25) hx hb hK hP hD hS 16 0 rfl rfl 0 (by decide) (by unfold vp_in; decide) dX4_pack_68 (fun H locs hP hD hS => ?_)
        rw [wd4_R25] at hP hD
        refine lv_iload_n hx hb dX4_pack_69 rfl (lv_at hl 1 rfl) ?_
        refine lv_ineg hx hb dX4_pack_70 ?_
        refine lv_iload_n hx hb dX4_pack_71 rfl (lv_at hl 1 rfl) ?_
        refine lv_iand hx hb dX4_pack_72 ?_
        refine lv_topi (fun x2_1 ex2_1 => ?_)
        have hq := hq x2_1 ex2_1
        refine lv_istore_n (lv' := [(2, .int x2_1), (0, .ref h), (1, .int p1)]) hx hb dX4_pack_73 rfl hl (by decide) rfl (fun ls hl => ?_)
        exact hq _ _ ls hP hD hS (lv_sub hl [1, 2, 0] rfl)
      · have hq := hq.2 hc
        refine lv_aload_n hx hb dX4_pack_6 rfl (lv_at hl 0 rfl) ?_
        refine va_get (D := (dC, dI)) (ci := 4) (v := .ref (ad 24)) (C := RX4) (T := TX4) (N := 27) hx hb hts nX4_pack_X4 hown hK hP 0 rfl rfl 24 (by decide) (hts _ mX4_pack_f62) (fun _ h9 => h9) rfl dX4_pack_7 ?_
        refine lv_iload_n hx hb dX4_pack_10 rfl (lv_at hl 2 rfl) ?_
        refine lv_iconst (v := (0 : Int32)) hx hb dX4_pack_11 (by decide) ?_
        obtain ⟨hi_2, hq⟩ := hq
        refine va_iast (f := R 24) hx hb hK hP hD hS 15 0 rfl rfl hi_2 dX4_pack_12 (fun H locs hP hD hS => ?_)
        rw [wd4_R24] at hP hD
        refine lv_iconst (v := (0 : Int32)) hx hb dX4_pack_13 (by decide) ?_
        refine lv_istore_n (lv' := [(3, .int (0 : Int32)), (0, .ref h), (1, .int p1), (2, .int x2)]) hx hb dX4_pack_14 rfl hl (by decide) rfl (fun ls hl => ?_)
        exact hq _ _ ls hP hD hS (lv_sub hl [1, 2, 3, 0] rfl)
    · intro x2 x3 I R hq H locs ls hP hD hS hl
      refine lv_iload_n hx hb dX4_pack_15 rfl (lv_at hl 3 rfl) ?_
      refine lv_aload_n hx hb dX4_pack_16 rfl (lv_at hl 0 rfl) ?_
      refine va_get (D := (dC, dI)) (ci := 4) (v := .int (I 11)) (C := RX4) (T := TX4) (N := 27) hx hb hts nX4_pack_X4 hown hK hP 0 rfl rfl 11 (by decide) (hts _ mX4_pack_f74) (fun _ h9 => h9) rfl dX4_pack_17 ?_
      refine lv_icmp_ge (tgt := 53) hx hb dX4_pack_20 (by decide) (fun hc => ?_) (fun hc => ?_)
      · have hq := hq.1 hc
        refine lv_iload_n hx hb dX4_pack_53 rfl (lv_at hl 2 rfl) ?_
        refine lv_iconst (v := (1 : Int32)) hx hb dX4_pack_54 (by decide) ?_
        refine lv_isub hx hb dX4_pack_55 ?_
        refine lv_iload_n hx hb dX4_pack_56 rfl (lv_at hl 1 rfl) ?_
        refine lv_iand hx hb dX4_pack_57 ?_
        refine lv_topi (fun x2_3 ex2_3 => ?_)
        have hq := hq x2_3 ex2_3
        refine lv_istore_n (lv' := [(2, .int x2_3), (0, .ref h), (1, .int p1), (3, .int x3)]) hx hb dX4_pack_58 rfl hl (by decide) rfl (fun ls hl => ?_)
        refine lv_goto (tgt := 2) hx hb dX4_pack_59 (by decide) ?_
        exact hq _ _ ls hP hD hS (lv_sub hl [1, 2, 0] rfl)
      · have hq := hq.2 hc
        refine lv_iload_n hx hb dX4_pack_23 rfl (lv_at hl 2 rfl) ?_
        refine lv_iload_n hx hb dX4_pack_24 rfl (lv_at hl 3 rfl) ?_
        refine lv_ishr hx hb dX4_pack_25 ?_
        refine lv_iconst (v := (1 : Int32)) hx hb dX4_pack_26 (by decide) ?_
        refine lv_iand hx hb dX4_pack_27 ?_
        refine lv_iconst (v := (1 : Int32)) hx hb dX4_pack_28 (by decide) ?_
        refine lv_icmp_ne (tgt := 47) hx hb dX4_pack_29 (by decide) (fun hc => ?_) (fun hc => ?_)
        · have hq := hq.1 hc
          refine lv_iinc (v := x3 + (1 : Int32)) (lv' := [(3, .int (x3 + (1 : Int32))), (0, .ref h), (1, .int p1), (2, .int x2)]) hx hb dX4_pack_47 hl (k := 3) rfl rfl (by decide) rfl (fun ls hl => ?_)
          refine lv_goto (tgt := 15) hx hb dX4_pack_50 (by decide) ?_
          exact hq _ _ ls hP hD hS (lv_sub hl [1, 2, 3, 0] rfl)
        · have hq := hq.2 hc
          refine lv_aload_n hx hb dX4_pack_32 rfl (lv_at hl 0 rfl) ?_
          refine va_get (D := (dC, dI)) (ci := 4) (v := .ref (ad 24)) (C := RX4) (T := TX4) (N := 27) hx hb hts nX4_pack_X4 hown hK hP 0 rfl rfl 24 (by decide) (hts _ mX4_pack_f62) (fun _ h9 => h9) rfl dX4_pack_33 ?_
          refine lv_iload_n hx hb dX4_pack_36 rfl (lv_at hl 2 rfl) ?_
          refine lv_dup2_11 hx hb dX4_pack_37 rfl rfl ?_
          obtain ⟨hi_4, hq⟩ := hq
          refine va_iald (f := R 24) hx hb hK hP 15 0 rfl rfl hi_4 dX4_pack_38 ?_
          refine lv_aload_n hx hb dX4_pack_39 rfl (lv_at hl 0 rfl) ?_
          refine va_get (D := (dC, dI)) (ci := 4) (v := .ref (ad 5)) (C := RX4) (T := TX4) (N := 27) hx hb hts nX4_pack_X4 hown hK hP 0 rfl rfl 5 (by decide) (hts _ mX4_pack_f22) (fun _ h9 => h9) rfl dX4_pack_40 ?_
          refine lv_iload_n hx hb dX4_pack_43 rfl (lv_at hl 3 rfl) ?_
          obtain ⟨hi_5, hq⟩ := hq
          refine va_iald (f := R 5) hx hb hK hP 5 0 rfl rfl hi_5 dX4_pack_44 ?_
          refine lv_iadd hx hb dX4_pack_45 ?_
          refine va_iast (f := R 24) hx hb hK hP hD hS 15 0 rfl rfl hi_4 dX4_pack_46 (fun H locs hP hD hS => ?_)
          rw [wd4_R24] at hP hD
          refine lv_iinc (v := x3 + (1 : Int32)) (lv' := [(3, .int (x3 + (1 : Int32))), (0, .ref h), (1, .int p1), (2, .int x2)]) hx hb dX4_pack_47 hl (k := 3) rfl rfl (by decide) rfl (fun ls hl => ?_)
          refine lv_goto (tgt := 15) hx hb dX4_pack_50 (by decide) ?_
          exact hq _ _ ls hP hD hS (lv_sub hl [1, 2, 3, 0] rfl)
    · intro x2 I R hq H locs ls hP hD hS hl
      refine lv_iload_n hx hb dX4_pack_74 rfl (lv_at hl 2 rfl) ?_
      refine lv_if_eq (tgt := 170) hx hb dX4_pack_75 (by decide) (fun hc => ?_) (fun hc => ?_)
      · have hq := hq.1 hc
        exact w_vret (post := fun (u : (Nat → Int32) × (Nat → Nat → Int32)) => post u.1 u.2) (wf := fun u : (Nat → Int32) × (Nat → Nat → Int32) => wd4 cI h ad u.1 u.2) (u := (I, R)) hx hb hr hK hP hD hS hq dX4_pack_170 hlocks
      · have hq := hq.2 hc
        refine lv_aload_n hx hb dX4_pack_78 rfl (lv_at hl 0 rfl) ?_
        refine va_get (D := (dC, dI)) (ci := 4) (v := .ref (ad 25)) (C := RX4) (T := TX4) (N := 27) hx hb hts nX4_pack_X4 hown hK hP 0 rfl rfl 25 (by decide) (hts _ mX4_pack_f65) (fun _ h9 => h9) rfl dX4_pack_79 ?_
        refine lv_iload_n hx hb dX4_pack_82 rfl (lv_at hl 2 rfl) ?_
        refine lv_bipush (v := (15 : Int32)) hx hb dX4_pack_83 (by decide) ?_
        obtain ⟨hi_6, hq⟩ := hq
        refine va_iast (f := R 25) hx hb hK hP hD hS 16 0 rfl rfl hi_6 dX4_pack_85 (fun H locs hP hD hS => ?_)
        rw [wd4_R25] at hP hD
        refine lv_iload_n hx hb dX4_pack_86 rfl (lv_at hl 2 rfl) ?_
        refine lv_iload_n hx hb dX4_pack_87 rfl (lv_at hl 2 rfl) ?_
        refine lv_ineg hx hb dX4_pack_88 ?_
        refine lv_iand hx hb dX4_pack_89 ?_
        refine lv_topi (fun x3_7 ex3_7 => ?_)
        have hq := hq x3_7 ex3_7
        refine lv_istore_n (lv' := [(3, .int x3_7), (0, .ref h), (1, .int p1), (2, .int x2)]) hx hb dX4_pack_90 rfl hl (by decide) rfl (fun ls hl => ?_)
        refine lv_iload_n hx hb dX4_pack_91 rfl (lv_at hl 3 rfl) ?_
        refine lv_iload_n hx hb dX4_pack_92 rfl (lv_at hl 0 rfl) ?_
        refine lv_ixor hx hb dX4_pack_93 ?_
        refine lv_topi (fun x4_8 ex4_8 => ?_)
        have hq := hq x4_8 ex4_8
        refine lv_istore (lv' := [(4, .int x4_8), (3, .int x3_7), (0, .ref h), (1, .int p1), (2, .int x2)]) hx hb dX4_pack_94 hl (by decide) rfl (fun ls hl => ?_)
        refine lv_iload hx hb dX4_pack_96 (lv_at hl 0 rfl) ?_
        refine lv_istore (lv' := [(5, .int x4_8), (4, .int x4_8), (3, .int x3_7), (0, .ref h), (1, .int p1), (2, .int x2)]) hx hb dX4_pack_98 hl (by decide) rfl (fun ls hl => ?_)
        exact hq _ _ ls hP hD hS (lv_sub hl [3, 4, 5, 2, 1, 0] rfl)
    · intro x2 x3 x4 x5 I R hq H locs ls hP hD hS hl
      refine lv_aload_n hx hb dX4_pack_100 rfl (lv_at hl 0 rfl) ?_
      refine va_get (D := (dC, dI)) (ci := 4) (v := .ref (ad 24)) (C := RX4) (T := TX4) (N := 27) hx hb hts nX4_pack_X4 hown hK hP 0 rfl rfl 24 (by decide) (hts _ mX4_pack_f62) (fun _ h9 => h9) rfl dX4_pack_101 ?_
      refine lv_iload hx hb dX4_pack_104 (lv_at hl 5 rfl) ?_
      refine lv_iload_n hx hb dX4_pack_106 rfl (lv_at hl 3 rfl) ?_
      refine lv_ior hx hb dX4_pack_107 ?_
      obtain ⟨hi_9, hq⟩ := hq
      refine va_iald (f := R 24) hx hb hK hP 15 0 rfl rfl hi_9 dX4_pack_108 ?_
      refine lv_bipush (v := (12 : Int32)) hx hb dX4_pack_109 (by decide) ?_
      refine lv_icmp_gt (tgt := 141) hx hb dX4_pack_111 (by decide) (fun hc => ?_) (fun hc => ?_)
      · have hq := hq.1 hc
        exact hq _ _ ls hP hD hS (lv_sub hl [0, 1, 2, 3, 4, 5] rfl)
      · have hq := hq.2 hc
        refine lv_aload_n hx hb dX4_pack_114 rfl (lv_at hl 0 rfl) ?_
        refine va_get (D := (dC, dI)) (ci := 4) (v := .ref (ad 25)) (C := RX4) (T := TX4) (N := 27) hx hb hts nX4_pack_X4 hown hK hP 0 rfl rfl 25 (by decide) (hts _ mX4_pack_f65) (fun _ h9 => h9) rfl dX4_pack_115 ?_
        refine lv_iload_n hx hb dX4_pack_118 rfl (lv_at hl 2 rfl) ?_
        refine lv_aload_n hx hb dX4_pack_119 rfl (lv_at hl 0 rfl) ?_
        refine va_get (D := (dC, dI)) (ci := 4) (v := .ref (ad 25)) (C := RX4) (T := TX4) (N := 27) hx hb hts nX4_pack_X4 hown hK hP 0 rfl rfl 25 (by decide) (hts _ mX4_pack_f65) (fun _ h9 => h9) rfl dX4_pack_120 ?_
        refine lv_iload_n hx hb dX4_pack_123 rfl (lv_at hl 2 rfl) ?_
        obtain ⟨hi_10, hq⟩ := hq
        refine va_iald (f := R 25) hx hb hK hP 16 0 rfl rfl hi_10 dX4_pack_124 ?_
        refine lv_iconst (v := (1 : Int32)) hx hb dX4_pack_125 (by decide) ?_
        refine lv_aload_n hx hb dX4_pack_126 rfl (lv_at hl 0 rfl) ?_
        refine va_get (D := (dC, dI)) (ci := 4) (v := .ref (ad 25)) (C := RX4) (T := TX4) (N := 27) hx hb hts nX4_pack_X4 hown hK hP 0 rfl rfl 25 (by decide) (hts _ mX4_pack_f65) (fun _ h9 => h9) rfl dX4_pack_127 ?_
        refine lv_iload hx hb dX4_pack_130 (lv_at hl 4 rfl) ?_
        refine lv_iload hx hb dX4_pack_132 (lv_at hl 5 rfl) ?_
        refine lv_ixor hx hb dX4_pack_134 ?_
        obtain ⟨hi_11, hq⟩ := hq
        refine va_iald (f := R 25) hx hb hK hP 16 0 rfl rfl hi_11 dX4_pack_135 ?_
        refine lv_iadd hx hb dX4_pack_136 ?_
        refine va_mmin hx hb (hml.trans hl.1.symm) hown (hts _ mX4_pack_m156) (hts _ mX4_pack_s156) (hts _ mX4_pack_iMath) (hts _ mX4_pack_k156) (Nat.le_of_ble_eq_true rfl) (Nat.le_of_ble_eq_true rfl) (Nat.zero_le _) (Nat.zero_le _) dX4_pack_137 ?_
        refine lv_topi (fun v_12 ev_12 => ?_)
        have hq := hq v_12 ev_12
        refine va_iast (f := R 25) hx hb hK hP hD hS 16 0 rfl rfl hi_10 dX4_pack_140 (fun H locs hP hD hS => ?_)
        rw [wd4_R25] at hP hD
        exact hq _ _ ls hP hD hS (lv_sub hl [0, 1, 2, 3, 4, 5] rfl)
    · intro x2 x3 x4 x5 I R hq H locs ls hP hD hS hl
      refine lv_iload hx hb dX4_pack_141 (lv_at hl 5 rfl) ?_
      refine lv_if_ne (tgt := 149) hx hb dX4_pack_143 (by decide) (fun hc => ?_) (fun hc => ?_)
      · have hq := hq.1 hc
        refine lv_iload hx hb dX4_pack_149 (lv_at hl 5 rfl) ?_
        refine lv_iconst (v := (1 : Int32)) hx hb dX4_pack_151 (by decide) ?_
        refine lv_isub hx hb dX4_pack_152 ?_
        refine lv_iload hx hb dX4_pack_153 (lv_at hl 4 rfl) ?_
        refine lv_iand hx hb dX4_pack_155 ?_
        refine lv_topi (fun x5_13 ex5_13 => ?_)
        have hq := hq x5_13 ex5_13
        refine lv_istore (lv' := [(5, .int x5_13), (0, .ref h), (1, .int p1), (2, .int x2), (3, .int x3), (4, .int x4)]) hx hb dX4_pack_156 hl (by decide) rfl (fun ls hl => ?_)
        refine lv_goto (tgt := 100) hx hb dX4_pack_158 (by decide) ?_
        exact hq _ _ ls hP hD hS (lv_sub hl [1, 2, 3, 4, 5, 0] rfl)
      · have hq := hq.2 hc
        refine lv_goto (tgt := 161) hx hb dX4_pack_146 (by decide) ?_
        refine lv_iload_n hx hb dX4_pack_161 rfl (lv_at hl 2 rfl) ?_
        refine lv_iload_n hx hb dX4_pack_162 rfl (lv_at hl 1 rfl) ?_
        refine lv_isub hx hb dX4_pack_163 ?_
        refine lv_iload_n hx hb dX4_pack_164 rfl (lv_at hl 1 rfl) ?_
        refine lv_iand hx hb dX4_pack_165 ?_
        refine lv_topi (fun x2_14 ex2_14 => ?_)
        have hq := hq x2_14 ex2_14
        refine lv_istore_n (lv' := [(2, .int x2_14), (0, .ref h), (1, .int p1), (3, .int x3), (4, .int x4), (5, .int x5)]) hx hb dX4_pack_166 rfl hl (by decide) rfl (fun ls hl => ?_)
        refine lv_goto (tgt := 74) hx hb dX4_pack_167 (by decide) ?_
        exact hq _ _ ls hP hD hS (lv_sub hl [1, 2, 0] rfl)
  have hl := lv_entry ([.ref h, .int p1]) (n := 6) (Nat.le_of_ble_eq_true rfl)
  rw [lg_entry_eq]
  generalize (lg_sl ([.ref h, .int p1]) ++ List.replicate (6 - (lg_sl ([.ref h, .int p1])).length) Slot.unset).toArray = ls at hl ⊢
  have hl : lv_has ls 6 [(0, .ref h), (1, .int p1)] := hl
  refine lv_iload_n hx hb dX4_pack_0 rfl (lv_at hl 1 rfl) ?_
  refine lv_istore_n (lv' := [(2, .int p1), (0, .ref h), (1, .int p1)]) hx hb dX4_pack_1 rfl hl (by decide) rfl (fun ls hl => ?_)
  exact hq _ _ _ _ _ hZ _ _ ls hP hD hS (lv_sub hl [1, 2, 0] rfl)
def qX4_fewest (post : Int32 → (Nat → Int32) → (Nat → Nat → Int32) → Prop) (I : Nat → Int32) (R : Nat → Nat → Int32) : Prop := ∃ Pc_1 : (Nat → Int32) → (Nat → Nat → Int32) → Prop, qX4_pack Pc_1 (I 16) (va_up I 19 (0 : Int32)) R ∧ (∀ (Ic_1 : Nat → Int32) (Rc_1 : Nat → Nat → Int32), Pc_1 Ic_1 Rc_1 → (vp_in (Ic_1 16) 16384 ∧ (post (Rc_1 25 (Ic_1 16).toNatClampNeg) Ic_1 Rc_1)))
theorem mX4_fewest_f71 : Cond.fieldLink RX4 71 "YearBookModel" "thrown" "I" ∈ wsX4_fewest := by decide +kernel
theorem nX4_fewest_X4 : ∀ w ∈ u_ws RX4 TX4 27, w ∈ wsX4_fewest := by decide +kernel
theorem mX4_fewest_f108 : Cond.fieldLink RX4 108 "YearBookModel" "choice" "I" ∈ wsX4_fewest := by decide +kernel
theorem mX4_fewest_f65 : Cond.fieldLink RX4 65 "YearBookModel" "least" "[I" ∈ wsX4_fewest := by decide +kernel
set_option maxHeartbeats 4000000 in
set_option maxRecDepth 100000 in
theorem tX4_fewest (l : Launch) (dC : Nat → ClassId) (dI : Nat → Nat → Nat) (cI : ClassId) (h : Nat) (ad : Nat → Nat)  (sz : Nat) (post : Int32 → (Nat → Int32) → (Nat → Nat → Int32) → Prop) (I : Nat → Int32) (R : Nat → Nat → Int32) (hq : qX4_fewest post I R) : Met l yX4_fewest wsX4_fewest ({ frames := 2, cells := 0, slots := 0, locals := 55 } : Room) (va_Pc [.ref h] (wPre (dC, dI) vwCl [(cI, .int)] (wd4 cI h ad I R) sz)) (va_Qi (fun r (u : (Nat → Int32) × (Nat → Nat → Int32)) => post r u.1 u.2) (wAt (dC, dI) vwCl [(cI, .int)] (va_A (wd4 cI h ad I R) sz) (fun u : (Nat → Int32) × (Nat → Nat → Int32) => wd4 cI h ad u.1 u.2)) (va_A (wd4 cI h ad I R) sz)) 0 0 (va_A (wd4 cI h ad I R) sz) := by
  unfold qX4_fewest at hq
  refine Met.ofW (cc := cX4_fewest) (maxL := 1) (ret := (some .int)) (by decide) rfl ?_
  intro p e s m args below meth c s₁ B hml hv
  obtain ⟨rfl, hsz, hP, hK, hD0⟩ := hv
  have hx := B.exec
  have hb := B.bytes
  have hr := B.returns
  have hts := atoms_spec (ws := wsX4_fewest) B.pre
  have hown : s.vm.findClass RX4 = some m.cls := findClass_of_methodNamed B.named
  have hlocks := B.notSynchronized
  subst hsz
  have hD := hD0.self (sz := s.heap.size)
  generalize hAe : va_A (wd4 cI h ad I R) s.heap.size = A at hD ⊢
  have hA : ∀ q : Nat, s.heap.size ≤ q → A q := fun q h => by rw [← hAe]; exact Or.inr h
  have hS : va_S A s.heap s.heap [] := va_S.rf
  have hl := lv_entry ([.ref h]) (n := 1) (Nat.le_of_ble_eq_true rfl)
  rw [lg_entry_eq]
  generalize (lg_sl ([.ref h]) ++ List.replicate (1 - (lg_sl ([.ref h])).length) Slot.unset).toArray = ls at hl ⊢
  have hl : lv_has ls 1 [(0, .ref h)] := hl
  refine lv_aload_n hx hb dX4_fewest_0 rfl (lv_at hl 0 rfl) ?_
  refine lv_iconst (v := (0 : Int32)) hx hb dX4_fewest_1 (by decide) ?_
  refine va_put (D := (dC, dI)) (ci := 4) (v := .int (0 : Int32)) (ty := .int) (C := RX4) (T := TX4) (N := 27) hx hb hts nX4_fewest_X4 tyX4 tyX4_ok nmX4 hown hK hP hD hS 0 rfl rfl 19 (by decide) (hts _ mX4_fewest_f71) (fun _ h9 => h9) rfl (by decide +kernel) rfl rfl (Nat.le_of_ble_eq_true rfl) dX4_fewest_2 (fun H locs hP hD hS => ?_)
  rw [wd4_I19] at hP hD
  refine lv_aload_n hx hb dX4_fewest_5 rfl (lv_at hl 0 rfl) ?_
  refine lv_aload_n hx hb dX4_fewest_6 rfl (lv_at hl 0 rfl) ?_
  refine va_get (D := (dC, dI)) (ci := 4) (v := .int (I 16)) (C := RX4) (T := TX4) (N := 27) hx hb hts nX4_fewest_X4 hown hK hP 0 rfl rfl 16 (by decide) (hts _ mX4_fewest_f108) (fun _ h9 => h9) rfl dX4_fewest_7 ?_
  obtain ⟨Pc_1, hc, hq⟩ := hq
  refine w_callv (wf := fun u : (Nat → Int32) × (Nat → Nat → Int32) => wd4 cI h ad u.1 u.2) (va_runV (As := [.int (I 16)]) (rest := []) ⟨hx, hb, hml, hown, hts⟩ (tX4_pack l dC dI cI h ad _ Pc_1 (I 16) (va_up I 19 (0 : Int32)) R hc) (cwV 1 hts gX4_fewest_X4_pack rfl rfl rfl (by decide +kernel) ⟨Nat.le_of_ble_eq_true rfl, Nat.le_of_ble_eq_true rfl⟩) (wPreV hK hP hD (ci := 4) (q0 := 0) rfl rfl) rfl rfl hl.1 rfl (lv_room (Nat.le_of_ble_eq_true rfl)) dX4_fewest_10 ⟨Nat.le_of_ble_eq_true rfl, Nat.le_of_ble_eq_true rfl⟩) hD hS hA (fun u H locs hp hP hD hS => ?_)
  obtain ⟨Ic_1, Rc_1⟩ := u
  have hq := hq Ic_1 Rc_1 hp
  have hP : va_P (dC, dI) vwCl (wd4 cI h ad Ic_1 Rc_1) H := hP
  have hD : va_D A (wd4 cI h ad Ic_1 Rc_1) := hD
  refine lv_aload_n hx hb dX4_fewest_13 rfl (lv_at hl 0 rfl) ?_
  refine va_get (D := (dC, dI)) (ci := 4) (v := .ref (ad 25)) (C := RX4) (T := TX4) (N := 27) hx hb hts nX4_fewest_X4 hown hK hP 0 rfl rfl 25 (by decide) (hts _ mX4_fewest_f65) (fun _ h9 => h9) rfl dX4_fewest_14 ?_
  refine lv_aload_n hx hb dX4_fewest_17 rfl (lv_at hl 0 rfl) ?_
  refine va_get (D := (dC, dI)) (ci := 4) (v := .int (Ic_1 16)) (C := RX4) (T := TX4) (N := 27) hx hb hts nX4_fewest_X4 hown hK hP 0 rfl rfl 16 (by decide) (hts _ mX4_fewest_f108) (fun _ h9 => h9) rfl dX4_fewest_18 ?_
  obtain ⟨hi_2, hq⟩ := hq
  refine va_iald (f := Rc_1 25) hx hb hK hP 16 0 rfl rfl hi_2 dX4_fewest_21 ?_
  exact w_iret (post := fun r (u : (Nat → Int32) × (Nat → Nat → Int32)) => post r u.1 u.2) (wf := fun u : (Nat → Int32) × (Nat → Nat → Int32) => wd4 cI h ad u.1 u.2) (u := (Ic_1, Rc_1)) hx hb hr hK hP hD hS hq dX4_fewest_22 hlocks
