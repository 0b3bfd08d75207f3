def zX3_goodPictures (post : Int32 → Prop) (I : Nat → Int32) (R : Nat → Nat → Int32) (CI : Nat → Int32) (CJ : Nat → Int64) (CR : Nat → Nat → Int32) (CG : Nat → Nat → Int64) (EI : Nat → Int32) (ER : Nat → Nat → Int32) (Eq : Nat) (En : Nat) (V : vS) (X4 : Int32 → Int32 → Prop) : Prop :=
  (∀ (x1 : Int32) (x2 : Int32), ((((I 4) ≤ x2) → (post x1)) ∧ ((¬ (I 4) ≤ x2) → (∃ Pc_1 : Int32 → Prop, qX3_shownIn Pc_1 x2 I R CI CJ CR CG EI ER Eq En V ∧ (∀ (rc_1 : Int32), Pc_1 rc_1 → (((rc_1 = 0) → (X4 x1 (x2 + (1 : Int32)))) ∧ ((¬ rc_1 = 0) → (∀ x1_2 : Int32, x1_2 = x1 ||| ((1 : Int32) <<< (x2 &&& 31)) → (X4 x1_2 (x2 + (1 : Int32)))))))))) → X4 x1 x2)
def qX3_goodPictures_4 (post : Int32 → Prop) (I : Nat → Int32) (R : Nat → Nat → Int32) (CI : Nat → Int32) (CJ : Nat → Int64) (CR : Nat → Nat → Int32) (CG : Nat → Nat → Int64) (EI : Nat → Int32) (ER : Nat → Nat → Int32) (Eq : Nat) (En : Nat) (V : vS) (x1 : Int32) (x2 : Int32) : Prop := ∀ (X4 : Int32 → Int32 → Prop), zX3_goodPictures post I R CI CJ CR CG EI ER Eq En V X4 → X4 x1 x2
theorem kX3_goodPictures_4 {post : Int32 → Prop} {I : Nat → Int32} {R : Nat → Nat → Int32} {CI : Nat → Int32} {CJ : Nat → Int64} {CR : Nat → Nat → Int32} {CG : Nat → Nat → Int64} {EI : Nat → Int32} {ER : Nat → Nat → Int32} {Eq : Nat} {En : Nat} {V : vS} {x1 : Int32} {x2 : Int32} (h : (((I 4) ≤ x2) → (post x1)) ∧ ((¬ (I 4) ≤ x2) → (∃ Pc_1 : Int32 → Prop, qX3_shownIn Pc_1 x2 I R CI CJ CR CG EI ER Eq En V ∧ (∀ (rc_1 : Int32), Pc_1 rc_1 → (((rc_1 = 0) → (qX3_goodPictures_4 post I R CI CJ CR CG EI ER Eq En V x1 (x2 + (1 : Int32)))) ∧ ((¬ rc_1 = 0) → (∀ x1_2 : Int32, x1_2 = x1 ||| ((1 : Int32) <<< (x2 &&& 31)) → (qX3_goodPictures_4 post I R CI CJ CR CG EI ER Eq En V x1_2 (x2 + (1 : Int32)))))))))) : qX3_goodPictures_4 post I R CI CJ CR CG EI ER Eq En V x1 x2 := by
  intro Z4 hcl
  refine hcl x1 x2 ?_
  refine ⟨fun c => ?_, fun c => ?_⟩
  · have h := h.1 c
    exact h
  · have h := h.2 c
    obtain ⟨P, h1, h2⟩ := h
    refine ⟨P, h1, fun b0 hp => ?_⟩
    have h := h2 b0 hp
    refine ⟨fun c => ?_, fun c => ?_⟩
    · have h := h.1 c
      exact h _ hcl
    · have h := h.2 c
      intro x e
      have h := h x e
      exact h _ hcl
def qX3_goodPictures (post : Int32 → Prop) (I : Nat → Int32) (R : Nat → Nat → Int32) (CI : Nat → Int32) (CJ : Nat → Int64) (CR : Nat → Nat → Int32) (CG : Nat → Nat → Int64) (EI : Nat → Int32) (ER : Nat → Nat → Int32) (Eq : Nat) (En : Nat) (V : vS) : Prop := qX3_goodPictures_4 post I R CI CJ CR CG EI ER Eq En V (0 : Int32) (0 : Int32)
theorem mX3_goodPictures_f51 : Cond.fieldLink RX3 51 "YearBook" "pictureCount" "I" ∈ wsX3_goodPictures := by decide +kernel
theorem nX3_goodPictures_X3 : ∀ w ∈ u_ws RX3 TX3 9, w ∈ wsX3_goodPictures := by decide +kernel
set_option maxHeartbeats 4000000 in
set_option maxRecDepth 100000 in
theorem tX3_goodPictures (l : Launch) (dC : Nat → ClassId) (dI : Nat → Nat → Nat) (cI : ClassId) (cJ : ClassId) (cP : ClassId) (h : Nat) (ad ad0 ad1 : Nat → Nat)  (sz : Nat) (post : Int32 → Prop) (I : Nat → Int32) (R : Nat → Nat → Int32) (CI : Nat → Int32) (CJ : Nat → Int64) (CR : Nat → Nat → Int32) (CG : Nat → Nat → Int64) (EI : Nat → Int32) (ER : Nat → Nat → Int32) (Eq : Nat) (En : Nat) (V : vS) (hq : qX3_goodPictures post I R CI CJ CR CG EI ER Eq En V) : Met l yX3_goodPictures wsX3_goodPictures ({ frames := 2, cells := 0, slots := 0, locals := 43 } : Room) (va_Pc [.ref h] (wPreN (dC, dI) vwCl [(cI, .int), (cJ, .long), (cP, .object "YearBook$Picture")] (wd3 cI cJ cP h ad ad0 ad1 I R CI CJ CR CG EI ER Eq En V) sz)) (va_Qi (fun r (_ : Unit) => post r ) (wAt (dC, dI) vwCl [(cI, .int), (cJ, .long), (cP, .object "YearBook$Picture")] (va_A (wd3 cI cJ cP h ad ad0 ad1 I R CI CJ CR CG EI ER Eq En V) sz) (fun _ : Unit => wd3 cI cJ cP h ad ad0 ad1 I R CI CJ CR CG EI ER Eq En V)) (va_A (wd3 cI cJ cP h ad ad0 ad1 I R CI CJ CR CG EI ER Eq En V) sz)) 0 0 (va_A (wd3 cI cJ cP h ad ad0 ad1 I R CI CJ CR CG EI ER Eq En V) sz) := by
  unfold qX3_goodPictures at hq
  refine Met.ofW (cc := cX3_goodPictures) (maxL := 3) (ret := (some .int)) (by decide) rfl ?_
  intro p e s m args below meth c s₁ B hml hv
  obtain ⟨rfl, ⟨hsz, hP, hK, hD0⟩, hn⟩ := hv
  have hx := B.exec
  have hb := B.bytes
  have hr := B.returns
  have hts := atoms_spec (ws := wsX3_goodPictures) B.pre
  have hown : s.vm.findClass RX3 = some m.cls := findClass_of_methodNamed B.named
  have hlocks := B.notSynchronized
  subst hsz
  have hD := hD0.self (sz := s.heap.size)
  generalize hAe : va_A (wd3 cI cJ cP h ad ad0 ad1 I R CI CJ CR CG EI ER Eq En V) s.heap.size = A at hD ⊢
  have hA : ∀ q : Nat, s.heap.size ≤ q → A q := fun q h => by rw [← hAe]; exact Or.inr h
  have hS : va_S A s.heap s.heap [] := va_S.rf
  have hZ : zX3_goodPictures post I R CI CJ CR CG EI ER Eq En V
      (fun (x1 : Int32) (x2 : Int32) => ∀ (H : Heap) (locs : List Loc) (ls : Array Slot), va_P (dC, dI) vwCl (wd3 cI cJ cP h ad ad0 ad1 I R CI CJ CR CG EI ER Eq En V) H → va_D A (wd3 cI cJ cP h ad ad0 ad1 I R CI CJ CR CG EI ER Eq En V) → va_S A s.heap H locs → lv_has ls 3 [(0, .ref h), (1, .int x1), (2, .int x2)] → W p l e (headSpec wsX3_goodPictures ({ frames := 2, cells := 0, slots := 0, locals := 43 } : Room)).room s m ([.ref h] : List Value).toArray below meth c H locs 0 0 (MQ below (va_Qi (fun r (_ : Unit) => post r ) (wAt (dC, dI) vwCl [(cI, .int), (cJ, .long), (cP, .object "YearBook$Picture")] A (fun _ : Unit => wd3 cI cJ cP h ad ad0 ad1 I R CI CJ CR CG EI ER Eq En V)) A) ([.ref h] : List Value).toArray s 0 0 A) (F0 m 4 ls [])) := by
    unfold zX3_goodPictures
    intro x1 x2 hq H locs ls hP hD hS hl
    refine lv_iload_n hx hb dX3_goodPictures_4 rfl (lv_at hl 2 rfl) ?_
    refine lv_aload_n hx hb dX3_goodPictures_5 rfl (lv_at hl 0 rfl) ?_
    refine va_get (D := (dC, dI)) (ci := 3) (v := .int (I 4)) (C := RX3) (T := TX3) (N := 9) hx hb hts nX3_goodPictures_X3 hown hK hP 0 rfl rfl 4 (by decide) (hts _ mX3_goodPictures_f51) (fun _ h9 => h9) rfl dX3_goodPictures_6 ?_
    refine lv_icmp_ge (tgt := 32) hx hb dX3_goodPictures_9 (by decide) (fun hc => ?_) (fun hc => ?_)
    · have hq := hq.1 hc
      refine lv_iload_n hx hb dX3_goodPictures_32 rfl (lv_at hl 1 rfl) ?_
      exact w_iret (post := fun r (_ : Unit) => post r ) (wf := fun _ : Unit => wd3 cI cJ cP h ad ad0 ad1 I R CI CJ CR CG EI ER Eq En V) (u := ()) hx hb hr hK hP hD hS hq dX3_goodPictures_33 hlocks
    · have hq := hq.2 hc
      refine lv_aload_n hx hb dX3_goodPictures_12 rfl (lv_at hl 0 rfl) ?_
      refine lv_iload_n hx hb dX3_goodPictures_13 rfl (lv_at hl 2 rfl) ?_
      obtain ⟨Pc_1, hc, hq⟩ := hq
      refine w_calli (wf := fun _ : Unit => wd3 cI cJ cP h ad ad0 ad1 I R CI CJ CR CG EI ER Eq En V) (va_runV (As := [.int x2]) (rest := []) ⟨hx, hb, hml, hown, hts⟩ (tX3_shownIn l dC dI cI cJ cP h ad ad0 ad1 _ Pc_1 x2 I R CI CJ CR CG EI ER Eq En V hc) (cwV 1 hts gX3_goodPictures_X3_shownIn rfl rfl rfl (by decide +kernel) ⟨Nat.le_of_ble_eq_true rfl, Nat.le_of_ble_eq_true rfl⟩) (wPreVN hn hK hP hD (ci := 3) (q0 := 0) rfl rfl) rfl rfl hl.1 rfl (lv_room (Nat.le_of_ble_eq_true rfl)) dX3_goodPictures_14 ⟨Nat.le_of_ble_eq_true rfl, Nat.le_of_ble_eq_true rfl⟩) hD hS hA (fun rc_1 u H locs hp hP hD hS => ?_)
      have hq := hq rc_1 hp
      have hP : va_P (dC, dI) vwCl (wd3 cI cJ cP h ad ad0 ad1 I R CI CJ CR CG EI ER Eq En V) H := hP
      have hD : va_D A (wd3 cI cJ cP h ad ad0 ad1 I R CI CJ CR CG EI ER Eq En V) := hD
      refine lv_if_eq (tgt := 26) hx hb dX3_goodPictures_17 (by decide) (fun hc => ?_) (fun hc => ?_)
      · have hq := hq.1 hc
        refine lv_iinc (v := x2 + (1 : Int32)) (lv' := [(2, .int (x2 + (1 : Int32))), (0, .ref h), (1, .int x1)]) hx hb dX3_goodPictures_26 hl (k := 2) rfl rfl (by decide) rfl (fun ls hl => ?_)
        refine lv_goto (tgt := 4) hx hb dX3_goodPictures_29 (by decide) ?_
        exact hq _ _ ls hP hD hS (lv_sub hl [1, 2, 0] rfl)
      · have hq := hq.2 hc
        refine lv_iload_n hx hb dX3_goodPictures_20 rfl (lv_at hl 1 rfl) ?_
        refine lv_iconst (v := (1 : Int32)) hx hb dX3_goodPictures_21 (by decide) ?_
        refine lv_iload_n hx hb dX3_goodPictures_22 rfl (lv_at hl 2 rfl) ?_
        refine lv_ishl hx hb dX3_goodPictures_23 ?_
        refine lv_ior hx hb dX3_goodPictures_24 ?_
        refine lv_topi (fun x1_2 ex1_2 => ?_)
        have hq := hq x1_2 ex1_2
        refine lv_istore_n (lv' := [(1, .int x1_2), (0, .ref h), (2, .int x2)]) hx hb dX3_goodPictures_25 rfl hl (by decide) rfl (fun ls hl => ?_)
        refine lv_iinc (v := x2 + (1 : Int32)) (lv' := [(2, .int (x2 + (1 : Int32))), (1, .int x1_2), (0, .ref h)]) hx hb dX3_goodPictures_26 hl (k := 2) rfl rfl (by decide) rfl (fun ls hl => ?_)
        refine lv_goto (tgt := 4) hx hb dX3_goodPictures_29 (by decide) ?_
        exact hq _ _ ls hP hD hS (lv_sub hl [2, 1, 0] rfl)
  have hl := lv_entry ([.ref h]) (n := 3) (Nat.le_of_ble_eq_true rfl)
  rw [lg_entry_eq]
  generalize (lg_sl ([.ref h]) ++ List.replicate (3 - (lg_sl ([.ref h])).length) Slot.unset).toArray = ls at hl ⊢
  have hl : lv_has ls 3 [(0, .ref h)] := hl
  refine lv_iconst (v := (0 : Int32)) hx hb dX3_goodPictures_0 (by decide) ?_
  refine lv_istore_n (lv' := [(1, .int (0 : Int32)), (0, .ref h)]) hx hb dX3_goodPictures_1 rfl hl (by decide) rfl (fun ls hl => ?_)
  refine lv_iconst (v := (0 : Int32)) hx hb dX3_goodPictures_2 (by decide) ?_
  refine lv_istore_n (lv' := [(2, .int (0 : Int32)), (1, .int (0 : Int32)), (0, .ref h)]) hx hb dX3_goodPictures_3 rfl hl (by decide) rfl (fun ls hl => ?_)
  exact hq _ hZ _ _ ls hP hD hS (lv_sub hl [2, 1, 0] rfl)
def qX3_count (post : Int32 → Prop) (p1 : Int32) (I : Nat → Int32) (R : Nat → Nat → Int32) (CI : Nat → Int32) (CJ : Nat → Int64) (CR : Nat → Nat → Int32) (CG : Nat → Nat → Int64) (EI : Nat → Int32) (ER : Nat → Nat → Int32) (Eq : Nat) (En : Nat) (V : vS) : Prop := ((p1.toInt < 0 ∨ 6 < p1.toInt) → (post (-1 : Int32))) ∧ ((p1 = (0 : Int32)) → (post (I 2))) ∧ ((p1 = (1 : Int32)) → (post (I 4))) ∧ ((p1 = (2 : Int32)) → (post (I 6))) ∧ ((p1 = (3 : Int32)) → (∃ Pc_1 : Int32 → Prop, qX3_worthOfChoice Pc_1  I R CI CJ CR CG EI ER Eq En V ∧ (∀ (rc_1 : Int32), Pc_1 rc_1 → (post rc_1)))) ∧ ((p1 = (4 : Int32)) → (post (EI 3))) ∧ ((p1 = (5 : Int32)) → (∃ Pc_2 : Int32 → Prop, qX3_goodPictures Pc_2  I R CI CJ CR CG EI ER Eq En V ∧ (∀ (rc_2 : Int32), Pc_2 rc_2 → (post rc_2)))) ∧ ((p1 = (6 : Int32)) → (∃ Pc_3 : Int32 → Prop, qX3_childrenInGood Pc_3  I R CI CJ CR CG EI ER Eq En V ∧ (∀ (rc_3 : Int32), Pc_3 rc_3 → (post rc_3))))
theorem mX3_count_f43 : Cond.fieldLink RX3 43 "YearBook" "children" "I" ∈ wsX3_count := by decide +kernel
theorem nX3_count_X3 : ∀ w ∈ u_ws RX3 TX3 9, w ∈ wsX3_count := by decide +kernel
theorem mX3_count_f51 : Cond.fieldLink RX3 51 "YearBook" "pictureCount" "I" ∈ wsX3_count := by decide +kernel
theorem mX3_count_f85 : Cond.fieldLink RX3 85 "YearBook" "choice" "I" ∈ wsX3_count := by decide +kernel
theorem mX3_count_f35 : Cond.fieldLink RX3 35 "YearBook" "pages" "LYearBook$Pages;" ∈ wsX3_count := by decide +kernel
theorem nX3_count_X1 : ∀ w ∈ u_ws RX1 TX1 10, w ∈ wsX3_count := by decide +kernel
set_option maxHeartbeats 4000000 in
set_option maxRecDepth 100000 in
theorem tX3_count (l : Launch) (dC : Nat → ClassId) (dI : Nat → Nat → Nat) (cI : ClassId) (cJ : ClassId) (cP : ClassId) (h : Nat) (ad ad0 ad1 : Nat → Nat)  (sz : Nat) (post : Int32 → Prop) (p1 : Int32) (I : Nat → Int32) (R : Nat → Nat → Int32) (CI : Nat → Int32) (CJ : Nat → Int64) (CR : Nat → Nat → Int32) (CG : Nat → Nat → Int64) (EI : Nat → Int32) (ER : Nat → Nat → Int32) (Eq : Nat) (En : Nat) (V : vS) (hq : qX3_count post p1 I R CI CJ CR CG EI ER Eq En V) : Met l yX3_count wsX3_count ({ frames := 3, cells := 0, slots := 0, locals := 65 } : Room) (va_Pc [.ref h, .int p1] (wPreN (dC, dI) vwCl [(cI, .int), (cJ, .long), (cP, .object "YearBook$Picture")] (wd3 cI cJ cP h ad ad0 ad1 I R CI CJ CR CG EI ER Eq En V) sz)) (va_Qi (fun r (_ : Unit) => post r ) (wAt (dC, dI) vwCl [(cI, .int), (cJ, .long), (cP, .object "YearBook$Picture")] (va_A (wd3 cI cJ cP h ad ad0 ad1 I R CI CJ CR CG EI ER Eq En V) sz) (fun _ : Unit => wd3 cI cJ cP h ad ad0 ad1 I R CI CJ CR CG EI ER Eq En V)) (va_A (wd3 cI cJ cP h ad ad0 ad1 I R CI CJ CR CG EI ER Eq En V) sz)) 0 0 (va_A (wd3 cI cJ cP h ad ad0 ad1 I R CI CJ CR CG EI ER Eq En V) sz) := by
  unfold qX3_count at hq
  refine Met.ofW (cc := cX3_count) (maxL := 2) (ret := (some .int)) (by decide) rfl ?_
  intro p e s m args below meth c s₁ B hml hv
  obtain ⟨rfl, ⟨hsz, hP, hK, hD0⟩, hn⟩ := hv
  have hx := B.exec
  have hb := B.bytes
  have hr := B.returns
  have hts := atoms_spec (ws := wsX3_count) B.pre
  have hown : s.vm.findClass RX3 = some m.cls := findClass_of_methodNamed B.named
  have hlocks := B.notSynchronized
  subst hsz
  have hD := hD0.self (sz := s.heap.size)
  generalize hAe : va_A (wd3 cI cJ cP h ad ad0 ad1 I R CI CJ CR CG EI ER Eq En V) s.heap.size = A at hD ⊢
  have hA : ∀ q : Nat, s.heap.size ≤ q → A q := fun q h => by rw [← hAe]; exact Or.inr h
  have hS : va_S A s.heap s.heap [] := va_S.rf
  have hl := lv_entry ([.ref h, .int p1]) (n := 2) (Nat.le_of_ble_eq_true rfl)
  rw [lg_entry_eq]
  generalize (lg_sl ([.ref h, .int p1]) ++ List.replicate (2 - (lg_sl ([.ref h, .int p1])).length) Slot.unset).toArray = ls at hl ⊢
  have hl : lv_has ls 2 [(0, .ref h), (1, .int p1)] := hl
  refine lv_iload_n hx hb dX3_count_0 rfl (lv_at hl 1 rfl) ?_
  by_cases g0 : p1 = (0 : Int32)
  · have hq := hq.2.1 g0
    refine lv_tableIn (off := 43) (tgt := 44) hx hb dX3_count_1 (by rw [g0]; decide) (by rw [g0]; decide) (by rw [g0]; rfl) (by decide) ?_
    refine lv_aload_n hx hb dX3_count_44 rfl (lv_at hl 0 rfl) ?_
    refine va_get (D := (dC, dI)) (ci := 3) (v := .int (I 2)) (C := RX3) (T := TX3) (N := 9) hx hb hts nX3_count_X3 hown hK hP 0 rfl rfl 2 (by decide) (hts _ mX3_count_f43) (fun _ h9 => h9) rfl dX3_count_45 ?_
    exact w_iret (post := fun r (_ : Unit) => post r ) (wf := fun _ : Unit => wd3 cI cJ cP h ad ad0 ad1 I R CI CJ CR CG EI ER Eq En V) (u := ()) hx hb hr hK hP hD hS hq dX3_count_48 hlocks
  by_cases g1 : p1 = (1 : Int32)
  · have hq := hq.2.2.1 g1
    refine lv_tableIn (off := 48) (tgt := 49) hx hb dX3_count_1 (by rw [g1]; decide) (by rw [g1]; decide) (by rw [g1]; rfl) (by decide) ?_
    refine lv_aload_n hx hb dX3_count_49 rfl (lv_at hl 0 rfl) ?_
    refine va_get (D := (dC, dI)) (ci := 3) (v := .int (I 4)) (C := RX3) (T := TX3) (N := 9) hx hb hts nX3_count_X3 hown hK hP 0 rfl rfl 4 (by decide) (hts _ mX3_count_f51) (fun _ h9 => h9) rfl dX3_count_50 ?_
    exact w_iret (post := fun r (_ : Unit) => post r ) (wf := fun _ : Unit => wd3 cI cJ cP h ad ad0 ad1 I R CI CJ CR CG EI ER Eq En V) (u := ()) hx hb hr hK hP hD hS hq dX3_count_53 hlocks
  by_cases g2 : p1 = (2 : Int32)
  · have hq := hq.2.2.2.1 g2
    refine lv_tableIn (off := 53) (tgt := 54) hx hb dX3_count_1 (by rw [g2]; decide) (by rw [g2]; decide) (by rw [g2]; rfl) (by decide) ?_
    refine lv_aload_n hx hb dX3_count_54 rfl (lv_at hl 0 rfl) ?_
    refine va_get (D := (dC, dI)) (ci := 3) (v := .int (I 6)) (C := RX3) (T := TX3) (N := 9) hx hb hts nX3_count_X3 hown hK hP 0 rfl rfl 6 (by decide) (hts _ mX3_count_f85) (fun _ h9 => h9) rfl dX3_count_55 ?_
    exact w_iret (post := fun r (_ : Unit) => post r ) (wf := fun _ : Unit => wd3 cI cJ cP h ad ad0 ad1 I R CI CJ CR CG EI ER Eq En V) (u := ()) hx hb hr hK hP hD hS hq dX3_count_58 hlocks
  by_cases g3 : p1 = (3 : Int32)
  · have hq := hq.2.2.2.2.1 g3
    refine lv_tableIn (off := 58) (tgt := 59) hx hb dX3_count_1 (by rw [g3]; decide) (by rw [g3]; decide) (by rw [g3]; rfl) (by decide) ?_
    refine lv_aload_n hx hb dX3_count_59 rfl (lv_at hl 0 rfl) ?_
    obtain ⟨Pc_1, hc, hq⟩ := hq
    refine w_calli (wf := fun _ : Unit => wd3 cI cJ cP h ad ad0 ad1 I R CI CJ CR CG EI ER Eq En V) (va_runV (As := []) (rest := []) ⟨hx, hb, hml, hown, hts⟩ (tX3_worthOfChoice l dC dI cI cJ cP h ad ad0 ad1 _ Pc_1  I R CI CJ CR CG EI ER Eq En V hc) (cwV 0 hts gX3_count_X3_worthOfChoice rfl rfl rfl (by decide +kernel) ⟨Nat.le_of_ble_eq_true rfl, Nat.le_of_ble_eq_true rfl⟩) (wPreVN hn hK hP hD (ci := 3) (q0 := 0) rfl rfl) rfl rfl hl.1 rfl (lv_room (Nat.le_of_ble_eq_true rfl)) dX3_count_60 ⟨Nat.le_of_ble_eq_true rfl, Nat.le_of_ble_eq_true rfl⟩) hD hS hA (fun rc_1 u H locs hp hP hD hS => ?_)
    have hq := hq rc_1 hp
    have hP : va_P (dC, dI) vwCl (wd3 cI cJ cP h ad ad0 ad1 I R CI CJ CR CG EI ER Eq En V) H := hP
    have hD : va_D A (wd3 cI cJ cP h ad ad0 ad1 I R CI CJ CR CG EI ER Eq En V) := hD
    exact w_iret (post := fun r (_ : Unit) => post r ) (wf := fun _ : Unit => wd3 cI cJ cP h ad ad0 ad1 I R CI CJ CR CG EI ER Eq En V) (u := ()) hx hb hr hK hP hD hS hq dX3_count_63 hlocks
  by_cases g4 : p1 = (4 : Int32)
  · have hq := hq.2.2.2.2.2.1 g4
    refine lv_tableIn (off := 63) (tgt := 64) hx hb dX3_count_1 (by rw [g4]; decide) (by rw [g4]; decide) (by rw [g4]; rfl) (by decide) ?_
    refine lv_aload_n hx hb dX3_count_64 rfl (lv_at hl 0 rfl) ?_
    refine va_get (D := (dC, dI)) (ci := 3) (v := .ref (ad 8)) (C := RX3) (T := TX3) (N := 9) hx hb hts nX3_count_X3 hown hK hP 0 rfl rfl 8 (by decide) (hts _ mX3_count_f35) (fun _ h9 => h9) rfl dX3_count_65 ?_
    refine va_getN (D := (dC, dI)) (ci := 1) (v := .int (EI 3)) (C := RX1) (T := TX1) (N := 10) (host := "YearBook") hx hb hts nX3_count_X1 hown hK hP 13 rfl rfl 3 (by decide) (va_Nw.use rfl hn.2.2.1) (fun _ h9 => h9) rfl dX3_count_68 ?_
    exact w_iret (post := fun r (_ : Unit) => post r ) (wf := fun _ : Unit => wd3 cI cJ cP h ad ad0 ad1 I R CI CJ CR CG EI ER Eq En V) (u := ()) hx hb hr hK hP hD hS hq dX3_count_71 hlocks
  by_cases g5 : p1 = (5 : Int32)
  · have hq := hq.2.2.2.2.2.2.1 g5
    refine lv_tableIn (off := 71) (tgt := 72) hx hb dX3_count_1 (by rw [g5]; decide) (by rw [g5]; decide) (by rw [g5]; rfl) (by decide) ?_
    refine lv_aload_n hx hb dX3_count_72 rfl (lv_at hl 0 rfl) ?_
    obtain ⟨Pc_2, hc, hq⟩ := hq
    refine w_calli (wf := fun _ : Unit => wd3 cI cJ cP h ad ad0 ad1 I R CI CJ CR CG EI ER Eq En V) (va_runV (As := []) (rest := []) ⟨hx, hb, hml, hown, hts⟩ (tX3_goodPictures l dC dI cI cJ cP h ad ad0 ad1 _ Pc_2  I R CI CJ CR CG EI ER Eq En V hc) (cwV 0 hts gX3_count_X3_goodPictures rfl rfl rfl (by decide +kernel) ⟨Nat.le_of_ble_eq_true rfl, Nat.le_of_ble_eq_true rfl⟩) (wPreVN hn hK hP hD (ci := 3) (q0 := 0) rfl rfl) rfl rfl hl.1 rfl (lv_room (Nat.le_of_ble_eq_true rfl)) dX3_count_73 ⟨Nat.le_of_ble_eq_true rfl, Nat.le_of_ble_eq_true rfl⟩) hD hS hA (fun rc_2 u H locs hp hP hD hS => ?_)
    have hq := hq rc_2 hp
    have hP : va_P (dC, dI) vwCl (wd3 cI cJ cP h ad ad0 ad1 I R CI CJ CR CG EI ER Eq En V) H := hP
    have hD : va_D A (wd3 cI cJ cP h ad ad0 ad1 I R CI CJ CR CG EI ER Eq En V) := hD
    exact w_iret (post := fun r (_ : Unit) => post r ) (wf := fun _ : Unit => wd3 cI cJ cP h ad ad0 ad1 I R CI CJ CR CG EI ER Eq En V) (u := ()) hx hb hr hK hP hD hS hq dX3_count_76 hlocks
  by_cases g6 : p1 = (6 : Int32)
  · have hq := hq.2.2.2.2.2.2.2 g6
    refine lv_tableIn (off := 76) (tgt := 77) hx hb dX3_count_1 (by rw [g6]; decide) (by rw [g6]; decide) (by rw [g6]; rfl) (by decide) ?_
    refine lv_aload_n hx hb dX3_count_77 rfl (lv_at hl 0 rfl) ?_
    obtain ⟨Pc_3, hc, hq⟩ := hq
    refine w_calli (wf := fun _ : Unit => wd3 cI cJ cP h ad ad0 ad1 I R CI CJ CR CG EI ER Eq En V) (va_runV (As := []) (rest := []) ⟨hx, hb, hml, hown, hts⟩ (tX3_childrenInGood l dC dI cI cJ cP h ad ad0 ad1 _ Pc_3  I R CI CJ CR CG EI ER Eq En V hc) (cwV 0 hts gX3_count_X3_childrenInGood rfl rfl rfl (by decide +kernel) ⟨Nat.le_of_ble_eq_true rfl, Nat.le_of_ble_eq_true rfl⟩) (wPreVN hn hK hP hD (ci := 3) (q0 := 0) rfl rfl) rfl rfl hl.1 rfl (lv_room (Nat.le_of_ble_eq_true rfl)) dX3_count_78 ⟨Nat.le_of_ble_eq_true rfl, Nat.le_of_ble_eq_true rfl⟩) hD hS hA (fun rc_3 u H locs hp hP hD hS => ?_)
    have hq := hq rc_3 hp
    have hP : va_P (dC, dI) vwCl (wd3 cI cJ cP h ad ad0 ad1 I R CI CJ CR CG EI ER Eq En V) H := hP
    have hD : va_D A (wd3 cI cJ cP h ad ad0 ad1 I R CI CJ CR CG EI ER Eq En V) := hD
    exact w_iret (post := fun r (_ : Unit) => post r ) (wf := fun _ : Unit => wd3 cI cJ cP h ad ad0 ad1 I R CI CJ CR CG EI ER Eq En V) (u := ()) hx hb hr hK hP hD hS hq dX3_count_81 hlocks
  have g0 : p1.toInt ≠ 0 := ne_toInt g0
  have g1 : p1.toInt ≠ 1 := ne_toInt g1
  have g2 : p1.toInt ≠ 2 := ne_toInt g2
  have g3 : p1.toInt ≠ 3 := ne_toInt g3
  have g4 : p1.toInt ≠ 4 := ne_toInt g4
  have g5 : p1.toInt ≠ 5 := ne_toInt g5
  have g6 : p1.toInt ≠ 6 := ne_toInt g6
  have hc : p1.toInt < 0 ∨ 6 < p1.toInt := by omega
  have hq := hq.1 hc
  refine lv_tableOut (tgt := 82) hx hb dX3_count_1 hc (by decide) ?_
  refine lv_iconst (v := (-1 : Int32)) hx hb dX3_count_82 (by decide) ?_
  exact w_iret (post := fun r (_ : Unit) => post r ) (wf := fun _ : Unit => wd3 cI cJ cP h ad ad0 ad1 I R CI CJ CR CG EI ER Eq En V) (u := ()) hx hb hr hK hP hD hS hq dX3_count_83 hlocks
def qX3_drop (post : Int32 → (Nat → Int32) → (Nat → Nat → Int32) → (Nat → Int32) → (Nat → Int64) → (Nat → Nat → Int32) → (Nat → Nat → Int64) → (Nat → Int32) → (Nat → Nat → Int32) → Nat → Nat → vS → Prop) (p1 : Int32) (I : Nat → Int32) (R : Nat → Nat → Int32) (CI : Nat → Int32) (CJ : Nat → Int64) (CR : Nat → Nat → Int32) (CG : Nat → Nat → Int64) (EI : Nat → Int32) (ER : Nat → Nat → Int32) (Eq : Nat) (En : Nat) (V : vS) : Prop := (I 4) = nI (pvN V) ∧ pvN V ≤ 14 ∧ ((p1 < 0 ∨ (I 4) ≤ p1) → (post (0 : Int32) I R CI CJ CR CG EI ER Eq En V)) ∧ (∀ k_1 : Nat, k_1 < pvN V → p1 = nI k_1 → (∃ Pc_2 : Int32 → (Nat → Int32) → (Nat → Nat → Int32) → Nat → Nat → Prop, qX1_takeOut Pc_2 p1 EI ER Eq En ∧ (∀ (rc_2 : Int32) (EIc_2 : Nat → Int32) (ERc_2 : Nat → Nat → Int32) (Eqc_2 : Nat) (Enc_2 : Nat), Pc_2 rc_2 EIc_2 ERc_2 Eqc_2 Enc_2 → (((¬ rc_2 = 0) → (post (1 : Int32) (va_up I 6 ((I 6) &&& (((1 : Int32) <<< (p1 &&& 31)) ^^^ (-1 : Int32)))) R CI CJ CR CG EIc_2 ERc_2 Eqc_2 Enc_2 V)) ∧ ((rc_2 = 0) → (post (0 : Int32) I R CI CJ CR CG EIc_2 ERc_2 Eqc_2 Enc_2 V))))))
theorem mX3_drop_f35 : Cond.fieldLink RX3 35 "YearBook" "pages" "LYearBook$Pages;" ∈ wsX3_drop := by decide +kernel
theorem nX3_drop_X3 : ∀ w ∈ u_ws RX3 TX3 9, w ∈ wsX3_drop := by decide +kernel
theorem mX3_drop_f85 : Cond.fieldLink RX3 85 "YearBook" "choice" "I" ∈ wsX3_drop := by decide +kernel
set_option maxHeartbeats 4000000 in
set_option maxRecDepth 100000 in
theorem tX3_drop (l : Launch) (dC : Nat → ClassId) (dI : Nat → Nat → Nat) (cI : ClassId) (cJ : ClassId) (cP : ClassId) (h : Nat) (ad ad0 ad1 : Nat → Nat)  (sz : Nat) (post : Int32 → (Nat → Int32) → (Nat → Nat → Int32) → (Nat → Int32) → (Nat → Int64) → (Nat → Nat → Int32) → (Nat → Nat → Int64) → (Nat → Int32) → (Nat → Nat → Int32) → Nat → Nat → vS → Prop) (p1 : Int32) (I : Nat → Int32) (R : Nat → Nat → Int32) (CI : Nat → Int32) (CJ : Nat → Int64) (CR : Nat → Nat → Int32) (CG : Nat → Nat → Int64) (EI : Nat → Int32) (ER : Nat → Nat → Int32) (Eq : Nat) (En : Nat) (V : vS) (hq : qX3_drop post p1 I R CI CJ CR CG EI ER Eq En V) : Met l yX3_drop wsX3_drop ({ frames := 2, cells := 0, slots := 0, locals := 44 } : Room) (va_Pc [.ref h, .int p1] (wPreN (dC, dI) vwCl [(cI, .int), (cJ, .long), (cP, .object "YearBook$Picture")] (wd3 cI cJ cP h ad ad0 ad1 I R CI CJ CR CG EI ER Eq En V) sz)) (va_Qi (fun r (u : (Nat → Int32) × (Nat → Nat → Int32) × (Nat → Int32) × (Nat → Int64) × (Nat → Nat → Int32) × (Nat → Nat → Int64) × (Nat → Int32) × (Nat → Nat → Int32) × (Nat) × (Nat) × (vS)) => post r u.1 u.2.1 u.2.2.1 u.2.2.2.1 u.2.2.2.2.1 u.2.2.2.2.2.1 u.2.2.2.2.2.2.1 u.2.2.2.2.2.2.2.1 u.2.2.2.2.2.2.2.2.1 u.2.2.2.2.2.2.2.2.2.1 u.2.2.2.2.2.2.2.2.2.2) (wAt (dC, dI) vwCl [(cI, .int), (cJ, .long), (cP, .object "YearBook$Picture")] (va_A (wd3 cI cJ cP h ad ad0 ad1 I R CI CJ CR CG EI ER Eq En V) sz) (fun u : (Nat → Int32) × (Nat → Nat → Int32) × (Nat → Int32) × (Nat → Int64) × (Nat → Nat → Int32) × (Nat → Nat → Int64) × (Nat → Int32) × (Nat → Nat → Int32) × (Nat) × (Nat) × (vS) => wd3 cI cJ cP h ad ad0 ad1 u.1 u.2.1 u.2.2.1 u.2.2.2.1 u.2.2.2.2.1 u.2.2.2.2.2.1 u.2.2.2.2.2.2.1 u.2.2.2.2.2.2.2.1 u.2.2.2.2.2.2.2.2.1 u.2.2.2.2.2.2.2.2.2.1 u.2.2.2.2.2.2.2.2.2.2)) (va_A (wd3 cI cJ cP h ad ad0 ad1 I R CI CJ CR CG EI ER Eq En V) sz)) 0 0 (va_A (wd3 cI cJ cP h ad ad0 ad1 I R CI CJ CR CG EI ER Eq En V) sz) := by
  unfold qX3_drop at hq
  refine Met.ofW (cc := cX3_drop) (maxL := 2) (ret := (some .boolean)) (by decide) rfl ?_
  intro p e s m args below meth c s₁ B hml hv
  obtain ⟨rfl, ⟨hsz, hP, hK, hD0⟩, hn⟩ := hv
  have hx := B.exec
  have hb := B.bytes
  have hr := B.returns
  have hts := atoms_spec (ws := wsX3_drop) B.pre
  have hown : s.vm.findClass RX3 = some m.cls := findClass_of_methodNamed B.named
  have hlocks := B.notSynchronized
  subst hsz
  have hD := hD0.self (sz := s.heap.size)
  generalize hAe : va_A (wd3 cI cJ cP h ad ad0 ad1 I R CI CJ CR CG EI ER Eq En V) s.heap.size = A at hD ⊢
  have hA : ∀ q : Nat, s.heap.size ≤ q → A q := fun q h => by rw [← hAe]; exact Or.inr h
  have hS : va_S A s.heap s.heap [] := va_S.rf
  have hl := lv_entry ([.ref h, .int p1]) (n := 2) (Nat.le_of_ble_eq_true rfl)
  rw [lg_entry_eq]
  generalize (lg_sl ([.ref h, .int p1]) ++ List.replicate (2 - (lg_sl ([.ref h, .int p1])).length) Slot.unset).toArray = ls at hl ⊢
  have hl : lv_has ls 2 [(0, .ref h), (1, .int p1)] := hl
  refine lv_aload_n hx hb dX3_drop_0 rfl (lv_at hl 0 rfl) ?_
  refine lv_iload_n hx hb dX3_drop_1 rfl (lv_at hl 1 rfl) ?_
  obtain ⟨hI9, hN9, hq1, hq2⟩ := hq
  refine w_callq (wf := fun _ : Unit => wd3 cI cJ cP h ad ad0 ad1 I R CI CJ CR CG EI ER Eq En V) (va_runV (As := [.int p1]) (rest := []) ⟨hx, hb, hml, hown, hts⟩ (tX3_pictureAt l dC dI cI cJ cP h ad ad0 ad1 _ p1 I R CI CJ CR CG EI ER Eq En V hI9 hN9) (cwV 1 hts gX3_drop_X3_pictureAt rfl rfl rfl (by decide +kernel) ⟨Nat.le_of_ble_eq_true rfl, Nat.le_of_ble_eq_true rfl⟩) (wPreVN hn hK hP hD (ci := 3) (q0 := 0) rfl rfl) rfl rfl hl.1 rfl (lv_room (Nat.le_of_ble_eq_true rfl)) dX3_drop_2 ⟨Nat.le_of_ble_eq_true rfl, Nat.le_of_ble_eq_true rfl⟩) hD hS hA (fun r9 u9 H locs hp9 hP hD hS => ?_)
  have hP : va_P (dC, dI) vwCl (wd3 cI cJ cP h ad ad0 ad1 I R CI CJ CR CG EI ER Eq En V) H := hP
  have hD : va_D A (wd3 cI cJ cP h ad ad0 ad1 I R CI CJ CR CG EI ER Eq En V) := hD
  rcases hp9 with ⟨hc9, rfl⟩ | ⟨k_1, hk_1, ek_1, rfl⟩
  · have hq := hq1 hc9
    refine lv_ifnullN (tgt := 19) hx hb dX3_drop_5 (by decide) ?_
    refine lv_iconst (v := (0 : Int32)) hx hb dX3_drop_19 (by decide) ?_
    exact w_zret (post := fun r (u : (Nat → Int32) × (Nat → Nat → Int32) × (Nat → Int32) × (Nat → Int64) × (Nat → Nat → Int32) × (Nat → Nat → Int64) × (Nat → Int32) × (Nat → Nat → Int32) × (Nat) × (Nat) × (vS)) => post r u.1 u.2.1 u.2.2.1 u.2.2.2.1 u.2.2.2.2.1 u.2.2.2.2.2.1 u.2.2.2.2.2.2.1 u.2.2.2.2.2.2.2.1 u.2.2.2.2.2.2.2.2.1 u.2.2.2.2.2.2.2.2.2.1 u.2.2.2.2.2.2.2.2.2.2) (wf := fun u : (Nat → Int32) × (Nat → Nat → Int32) × (Nat → Int32) × (Nat → Int64) × (Nat → Nat → Int32) × (Nat → Nat → Int64) × (Nat → Int32) × (Nat → Nat → Int32) × (Nat) × (Nat) × (vS) => wd3 cI cJ cP h ad ad0 ad1 u.1 u.2.1 u.2.2.1 u.2.2.2.1 u.2.2.2.2.1 u.2.2.2.2.2.1 u.2.2.2.2.2.2.1 u.2.2.2.2.2.2.2.1 u.2.2.2.2.2.2.2.2.1 u.2.2.2.2.2.2.2.2.2.1 u.2.2.2.2.2.2.2.2.2.2) (u := (I, R, CI, CJ, CR, CG, EI, ER, Eq, En, V)) hx hb hr rfl hK hP hD hS hq dX3_drop_20 hlocks
  · have hq := hq2 k_1 hk_1 ek_1
    refine lv_ifnull hx hb dX3_drop_5 ?_
    refine lv_aload_n hx hb dX3_drop_8 rfl (lv_at hl 0 rfl) ?_
    refine va_get (D := (dC, dI)) (ci := 3) (v := .ref (ad 8)) (C := RX3) (T := TX3) (N := 9) hx hb hts nX3_drop_X3 hown hK hP 0 rfl rfl 8 (by decide) (hts _ mX3_drop_f35) (fun _ h9 => h9) rfl dX3_drop_9 ?_
    refine lv_iload_n hx hb dX3_drop_12 rfl (lv_at hl 1 rfl) ?_
    obtain ⟨Pc_2, hc, hq⟩ := hq
    refine w_calli (wf := fun u : (Nat → Int32) × (Nat → Nat → Int32) × (Nat) × (Nat) => wd3 cI cJ cP h ad ad0 ad1 I R CI CJ CR CG u.1 u.2.1 u.2.2.1 u.2.2.2 V) (va_runV (As := [.int p1]) (rest := []) ⟨hx, hb, hml, hown, hts⟩ (Met_frame_i (w' := fun u : (Nat → Int32) × (Nat → Nat → Int32) × (Nat) × (Nat) => wd3 cI cJ cP h ad ad0 ad1 I R CI CJ CR CG u.1 u.2.1 u.2.2.1 u.2.2.2 V) (tys2 := [(cI, .int), (cJ, .long), (cP, .object "YearBook$Picture")]) (tX1_takeOut l dC dI cI (ad 8) ad1 _ Pc_2 p1 EI ER Eq En hc) (p3e cI cJ cP h ad ad0 ad1 I R CI CJ CR CG EI ER Eq En V) (fun u => (p3e cI cJ cP h ad ad0 ad1 I R CI CJ CR CG u.1 u.2.1 u.2.2.1 u.2.2.2 V).symm) (fun U hU => hU.sub [0] rfl)) (cwV 1 hts gX3_drop_X1_takeOut rfl rfl rfl (by decide +kernel) ⟨Nat.le_of_ble_eq_true rfl, Nat.le_of_ble_eq_true rfl⟩) (wPreV hK hP hD (ci := 1) (q0 := 13) rfl rfl) rfl rfl hl.1 rfl (lv_room (Nat.le_of_ble_eq_true rfl)) dX3_drop_13 ⟨Nat.le_of_ble_eq_true rfl, Nat.le_of_ble_eq_true rfl⟩) hD hS hA (fun rc_2 u H locs hp hP hD hS => ?_)
    obtain ⟨EIc_2, ERc_2, Eqc_2, Enc_2⟩ := u
    have hq := hq rc_2 EIc_2 ERc_2 Eqc_2 Enc_2 hp
    have hP : va_P (dC, dI) vwCl (wd3 cI cJ cP h ad ad0 ad1 I R CI CJ CR CG EIc_2 ERc_2 Eqc_2 Enc_2 V) H := hP
    have hD : va_D A (wd3 cI cJ cP h ad ad0 ad1 I R CI CJ CR CG EIc_2 ERc_2 Eqc_2 Enc_2 V) := hD
    refine lv_if_ne (tgt := 21) hx hb dX3_drop_16 (by decide) (fun hc => ?_) (fun hc => ?_)
    · have hq := hq.1 hc
      refine lv_aload_n hx hb dX3_drop_21 rfl (lv_at hl 0 rfl) ?_
      refine lv_dup hx hb dX3_drop_22 rfl ?_
      refine va_get (D := (dC, dI)) (ci := 3) (v := .int (I 6)) (C := RX3) (T := TX3) (N := 9) hx hb hts nX3_drop_X3 hown hK hP 0 rfl rfl 6 (by decide) (hts _ mX3_drop_f85) (fun _ h9 => h9) rfl dX3_drop_23 ?_
      refine lv_iconst (v := (1 : Int32)) hx hb dX3_drop_26 (by decide) ?_
      refine lv_iload_n hx hb dX3_drop_27 rfl (lv_at hl 1 rfl) ?_
      refine lv_ishl hx hb dX3_drop_28 ?_
      refine lv_iconst (v := (-1 : Int32)) hx hb dX3_drop_29 (by decide) ?_
      refine lv_ixor hx hb dX3_drop_30 ?_
      refine lv_iand hx hb dX3_drop_31 ?_
      refine va_put (D := (dC, dI)) (ci := 3) (v := .int ((I 6) &&& (((1 : Int32) <<< (p1 &&& 31)) ^^^ (-1 : Int32)))) (ty := .int) (C := RX3) (T := TX3) (N := 9) hx hb hts nX3_drop_X3 tyX3 tyX3_ok nmX3 hown hK hP hD hS 0 rfl rfl 6 (by decide) (hts _ mX3_drop_f85) (fun _ h9 => h9) rfl (by decide +kernel) rfl rfl (Nat.le_of_ble_eq_true rfl) dX3_drop_32 (fun H locs hP hD hS => ?_)
      rw [wd3_I6] at hP hD
      refine lv_iconst (v := (1 : Int32)) hx hb dX3_drop_35 (by decide) ?_
      exact w_zret (post := fun r (u : (Nat → Int32) × (Nat → Nat → Int32) × (Nat → Int32) × (Nat → Int64) × (Nat → Nat → Int32) × (Nat → Nat → Int64) × (Nat → Int32) × (Nat → Nat → Int32) × (Nat) × (Nat) × (vS)) => post r u.1 u.2.1 u.2.2.1 u.2.2.2.1 u.2.2.2.2.1 u.2.2.2.2.2.1 u.2.2.2.2.2.2.1 u.2.2.2.2.2.2.2.1 u.2.2.2.2.2.2.2.2.1 u.2.2.2.2.2.2.2.2.2.1 u.2.2.2.2.2.2.2.2.2.2) (wf := fun u : (Nat → Int32) × (Nat → Nat → Int32) × (Nat → Int32) × (Nat → Int64) × (Nat → Nat → Int32) × (Nat → Nat → Int64) × (Nat → Int32) × (Nat → Nat → Int32) × (Nat) × (Nat) × (vS) => wd3 cI cJ cP h ad ad0 ad1 u.1 u.2.1 u.2.2.1 u.2.2.2.1 u.2.2.2.2.1 u.2.2.2.2.2.1 u.2.2.2.2.2.2.1 u.2.2.2.2.2.2.2.1 u.2.2.2.2.2.2.2.2.1 u.2.2.2.2.2.2.2.2.2.1 u.2.2.2.2.2.2.2.2.2.2) (u := (va_up I 6 ((I 6) &&& (((1 : Int32) <<< (p1 &&& 31)) ^^^ (-1 : Int32))), R, CI, CJ, CR, CG, EIc_2, ERc_2, Eqc_2, Enc_2, V)) hx hb hr rfl hK hP hD hS hq dX3_drop_36 hlocks
    · have hq := hq.2 hc
      refine lv_iconst (v := (0 : Int32)) hx hb dX3_drop_19 (by decide) ?_
      exact w_zret (post := fun r (u : (Nat → Int32) × (Nat → Nat → Int32) × (Nat → Int32) × (Nat → Int64) × (Nat → Nat → Int32) × (Nat → Nat → Int64) × (Nat → Int32) × (Nat → Nat → Int32) × (Nat) × (Nat) × (vS)) => post r u.1 u.2.1 u.2.2.1 u.2.2.2.1 u.2.2.2.2.1 u.2.2.2.2.2.1 u.2.2.2.2.2.2.1 u.2.2.2.2.2.2.2.1 u.2.2.2.2.2.2.2.2.1 u.2.2.2.2.2.2.2.2.2.1 u.2.2.2.2.2.2.2.2.2.2) (wf := fun u : (Nat → Int32) × (Nat → Nat → Int32) × (Nat → Int32) × (Nat → Int64) × (Nat → Nat → Int32) × (Nat → Nat → Int64) × (Nat → Int32) × (Nat → Nat → Int32) × (Nat) × (Nat) × (vS) => wd3 cI cJ cP h ad ad0 ad1 u.1 u.2.1 u.2.2.1 u.2.2.2.1 u.2.2.2.2.1 u.2.2.2.2.2.1 u.2.2.2.2.2.2.1 u.2.2.2.2.2.2.2.1 u.2.2.2.2.2.2.2.2.1 u.2.2.2.2.2.2.2.2.2.1 u.2.2.2.2.2.2.2.2.2.2) (u := (I, R, CI, CJ, CR, CG, EIc_2, ERc_2, Eqc_2, Enc_2, V)) hx hb hr rfl hK hP hD hS hq dX3_drop_20 hlocks
def qX3_face (post : Int32 → (Nat → Int32) → (Nat → Nat → Int32) → (Nat → Int32) → (Nat → Int64) → (Nat → Nat → Int32) → (Nat → Nat → Int64) → (Nat → Int32) → (Nat → Nat → Int32) → Nat → Nat → vS → Prop) (p1 : Int32) (p2 : Int32) (p3 : Int32) (p4 : Int32) (p5 : Int32) (I : Nat → Int32) (R : Nat → Nat → Int32) (CI : Nat → Int32) (CJ : Nat → Int64) (CR : Nat → Nat → Int32) (CG : Nat → Nat → Int64) (EI : Nat → Int32) (ER : Nat → Nat → Int32) (Eq : Nat) (En : Nat) (V : vS) : Prop := (I 4) = nI (pvN V) ∧ pvN V ≤ 14 ∧ ((p1 < 0 ∨ (I 4) ≤ p1) → (post (-1 : Int32) I R CI CJ CR CG EI ER Eq En V)) ∧ (∀ k_1 : Nat, k_1 < pvN V → p1 = nI k_1 → (∃ Pc_2 : Int32 → Prop, qX3_isChild Pc_2 p2 I R CI CJ CR CG EI ER Eq En V ∧ (∀ (rc_2 : Int32), Pc_2 rc_2 → (((rc_2 = 0) → (post (-1 : Int32) I R CI CJ CR CG EI ER Eq En V)) ∧ ((¬ rc_2 = 0) → (∃ Pc_3 : Int32 → Prop, qX3_within Pc_3 p3 (0 : Int32) (99 : Int32) ∧ (∀ (rc_3 : Int32), Pc_3 rc_3 → (((rc_3 = 0) → (post (-1 : Int32) I R CI CJ CR CG EI ER Eq En V)) ∧ ((¬ rc_3 = 0) → (∃ Pc_4 : Int32 → Prop, qX3_within Pc_4 p4 (0 : Int32) (99 : Int32) ∧ (∀ (rc_4 : Int32), Pc_4 rc_4 → (((rc_4 = 0) → (post (-1 : Int32) I R CI CJ CR CG EI ER Eq En V)) ∧ ((¬ rc_4 = 0) → (∃ Pc_5 : Int32 → Prop, qX3_within Pc_5 p5 (0 : Int32) (20 : Int32) ∧ (∀ (rc_5 : Int32), Pc_5 rc_5 → (((rc_5 = 0) → (post (-1 : Int32) I R CI CJ CR CG EI ER Eq En V)) ∧ ((¬ rc_5 = 0) → (∃ Pc_6 : Int32 → Prop, qX2_canHold Pc_6 p2 (pvI V k_1) (pvR V k_1) ∧ (∀ (rc_6 : Int32), Pc_6 rc_6 → (((¬ rc_6 = 0) → (∃ Pc_7 : (Nat → Int32) → (Nat → Nat → Int32) → Prop, qX2_add Pc_7 p2 p3 p4 p5 (pvI V k_1) (pvR V k_1) ∧ (∀ (Ipc_7 : Nat → Int32) (Rpc_7 : Nat → Nat → Int32), Pc_7 Ipc_7 Rpc_7 → (∃ Pc_8 : (Nat → Int32) → (Nat → Nat → Int32) → Prop, qX2_look Pc_8  (R 1) (pvI (pvW V k_1 Ipc_7 Rpc_7) k_1) (pvR (pvW V k_1 Ipc_7 Rpc_7) k_1) ∧ (∀ (Ipc_8 : Nat → Int32) (Rpc_8 : Nat → Nat → Int32), Pc_8 Ipc_8 Rpc_8 → (post (pvI (pvW (pvW V k_1 Ipc_7 Rpc_7) k_1 Ipc_8 Rpc_8) k_1 3) I R CI CJ CR CG EI ER Eq En (pvW (pvW V k_1 Ipc_7 Rpc_7) k_1 Ipc_8 Rpc_8))))))) ∧ ((rc_6 = 0) → (post (-1 : Int32) I R CI CJ CR CG EI ER Eq En V))))))))))))))))))))))
theorem mX3_face_f13 : Cond.fieldLink RX3 13 "YearBook" "consents" "[I" ∈ wsX3_face := by decide +kernel
theorem nX3_face_X3 : ∀ w ∈ u_ws RX3 TX3 9, w ∈ wsX3_face := by decide +kernel
theorem nX3_face_X2 : ∀ w ∈ u_ws RX2 TX2 11, w ∈ wsX3_face := by decide +kernel
set_option maxHeartbeats 4000000 in
set_option maxRecDepth 100000 in
theorem tX3_face (l : Launch) (dC : Nat → ClassId) (dI : Nat → Nat → Nat) (cI : ClassId) (cJ : ClassId) (cP : ClassId) (h : Nat) (ad ad0 ad1 : Nat → Nat)  (sz : Nat) (post : Int32 → (Nat → Int32) → (Nat → Nat → Int32) → (Nat → Int32) → (Nat → Int64) → (Nat → Nat → Int32) → (Nat → Nat → Int64) → (Nat → Int32) → (Nat → Nat → Int32) → Nat → Nat → vS → Prop) (p1 : Int32) (p2 : Int32) (p3 : Int32) (p4 : Int32) (p5 : Int32) (I : Nat → Int32) (R : Nat → Nat → Int32) (CI : Nat → Int32) (CJ : Nat → Int64) (CR : Nat → Nat → Int32) (CG : Nat → Nat → Int64) (EI : Nat → Int32) (ER : Nat → Nat → Int32) (Eq : Nat) (En : Nat) (V : vS) (hq : qX3_face post p1 p2 p3 p4 p5 I R CI CJ CR CG EI ER Eq En V) : Met l yX3_face wsX3_face ({ frames := 3, cells := 0, slots := 0, locals := 75 } : Room) (va_Pc [.ref h, .int p1, .int p2, .int p3, .int p4, .int p5] (wPreN (dC, dI) vwCl [(cI, .int), (cJ, .long), (cP, .object "YearBook$Picture")] (wd3 cI cJ cP h ad ad0 ad1 I R CI CJ CR CG EI ER Eq En V) sz)) (va_Qi (fun r (u : (Nat → Int32) × (Nat → Nat → Int32) × (Nat → Int32) × (Nat → Int64) × (Nat → Nat → Int32) × (Nat → Nat → Int64) × (Nat → Int32) × (Nat → Nat → Int32) × (Nat) × (Nat) × (vS)) => post r u.1 u.2.1 u.2.2.1 u.2.2.2.1 u.2.2.2.2.1 u.2.2.2.2.2.1 u.2.2.2.2.2.2.1 u.2.2.2.2.2.2.2.1 u.2.2.2.2.2.2.2.2.1 u.2.2.2.2.2.2.2.2.2.1 u.2.2.2.2.2.2.2.2.2.2) (wAt (dC, dI) vwCl [(cI, .int), (cJ, .long), (cP, .object "YearBook$Picture")] (va_A (wd3 cI cJ cP h ad ad0 ad1 I R CI CJ CR CG EI ER Eq En V) sz) (fun u : (Nat → Int32) × (Nat → Nat → Int32) × (Nat → Int32) × (Nat → Int64) × (Nat → Nat → Int32) × (Nat → Nat → Int64) × (Nat → Int32) × (Nat → Nat → Int32) × (Nat) × (Nat) × (vS) => wd3 cI cJ cP h ad ad0 ad1 u.1 u.2.1 u.2.2.1 u.2.2.2.1 u.2.2.2.2.1 u.2.2.2.2.2.1 u.2.2.2.2.2.2.1 u.2.2.2.2.2.2.2.1 u.2.2.2.2.2.2.2.2.1 u.2.2.2.2.2.2.2.2.2.1 u.2.2.2.2.2.2.2.2.2.2)) (va_A (wd3 cI cJ cP h ad ad0 ad1 I R CI CJ CR CG EI ER Eq En V) sz)) 0 0 (va_A (wd3 cI cJ cP h ad ad0 ad1 I R CI CJ CR CG EI ER Eq En V) sz) := by
  unfold qX3_face at hq
  refine Met.ofW (cc := cX3_face) (maxL := 7) (ret := (some .int)) (by decide) rfl ?_
  intro p e s m args below meth c s₁ B hml hv
  obtain ⟨rfl, ⟨hsz, hP, hK, hD0⟩, hn⟩ := hv
  have hx := B.exec
  have hb := B.bytes
  have hr := B.returns
  have hts := atoms_spec (ws := wsX3_face) B.pre
  have hown : s.vm.findClass RX3 = some m.cls := findClass_of_methodNamed B.named
  have hlocks := B.notSynchronized
  subst hsz
  have hD := hD0.self (sz := s.heap.size)
  generalize hAe : va_A (wd3 cI cJ cP h ad ad0 ad1 I R CI CJ CR CG EI ER Eq En V) s.heap.size = A at hD ⊢
  have hA : ∀ q : Nat, s.heap.size ≤ q → A q := fun q h => by rw [← hAe]; exact Or.inr h
  have hS : va_S A s.heap s.heap [] := va_S.rf
  have hl := lv_entry ([.ref h, .int p1, .int p2, .int p3, .int p4, .int p5]) (n := 7) (Nat.le_of_ble_eq_true rfl)
  rw [lg_entry_eq]
  generalize (lg_sl ([.ref h, .int p1, .int p2, .int p3, .int p4, .int p5]) ++ List.replicate (7 - (lg_sl ([.ref h, .int p1, .int p2, .int p3, .int p4, .int p5])).length) Slot.unset).toArray = ls at hl ⊢
  have hl : lv_has ls 7 [(0, .ref h), (1, .int p1), (2, .int p2), (3, .int p3), (4, .int p4), (5, .int p5)] := hl
  refine lv_aload_n hx hb dX3_face_0 rfl (lv_at hl 0 rfl) ?_
  refine lv_iload_n hx hb dX3_face_1 rfl (lv_at hl 1 rfl) ?_
  obtain ⟨hI9, hN9, hq1, hq2⟩ := hq
  refine w_callq (wf := fun _ : Unit => wd3 cI cJ cP h ad ad0 ad1 I R CI CJ CR CG EI ER Eq En V) (va_runV (As := [.int p1]) (rest := []) ⟨hx, hb, hml, hown, hts⟩ (tX3_pictureAt l dC dI cI cJ cP h ad ad0 ad1 _ p1 I R CI CJ CR CG EI ER Eq En V hI9 hN9) (cwV 1 hts gX3_face_X3_pictureAt rfl rfl rfl (by decide +kernel) ⟨Nat.le_of_ble_eq_true rfl, Nat.le_of_ble_eq_true rfl⟩) (wPreVN hn hK hP hD (ci := 3) (q0 := 0) rfl rfl) rfl rfl hl.1 rfl (lv_room (Nat.le_of_ble_eq_true rfl)) dX3_face_2 ⟨Nat.le_of_ble_eq_true rfl, Nat.le_of_ble_eq_true rfl⟩) hD hS hA (fun r9 u9 H locs hp9 hP hD hS => ?_)
  have hP : va_P (dC, dI) vwCl (wd3 cI cJ cP h ad ad0 ad1 I R CI CJ CR CG EI ER Eq En V) H := hP
  have hD : va_D A (wd3 cI cJ cP h ad ad0 ad1 I R CI CJ CR CG EI ER Eq En V) := hD
  rcases hp9 with ⟨hc9, rfl⟩ | ⟨k_1, hk_1, ek_1, rfl⟩
  · have hq := hq1 hc9
    refine lv_astoreN (lv' := [(6, .null), (0, .ref h), (1, .int p1), (2, .int p2), (3, .int p3), (4, .int p4), (5, .int p5)]) hx hb dX3_face_5 hl (by decide) rfl (fun ls hl => ?_)
    refine lv_aloadN hx hb dX3_face_7 (lv_at hl 0 rfl) ?_
    refine lv_ifnullN (tgt := 61) hx hb dX3_face_9 (by decide) ?_
    refine lv_iconst (v := (-1 : Int32)) hx hb dX3_face_61 (by decide) ?_
    exact w_iret (post := fun r (u : (Nat → Int32) × (Nat → Nat → Int32) × (Nat → Int32) × (Nat → Int64) × (Nat → Nat → Int32) × (Nat → Nat → Int64) × (Nat → Int32) × (Nat → Nat → Int32) × (Nat) × (Nat) × (vS)) => post r u.1 u.2.1 u.2.2.1 u.2.2.2.1 u.2.2.2.2.1 u.2.2.2.2.2.1 u.2.2.2.2.2.2.1 u.2.2.2.2.2.2.2.1 u.2.2.2.2.2.2.2.2.1 u.2.2.2.2.2.2.2.2.2.1 u.2.2.2.2.2.2.2.2.2.2) (wf := fun u : (Nat → Int32) × (Nat → Nat → Int32) × (Nat → Int32) × (Nat → Int64) × (Nat → Nat → Int32) × (Nat → Nat → Int64) × (Nat → Int32) × (Nat → Nat → Int32) × (Nat) × (Nat) × (vS) => wd3 cI cJ cP h ad ad0 ad1 u.1 u.2.1 u.2.2.1 u.2.2.2.1 u.2.2.2.2.1 u.2.2.2.2.2.1 u.2.2.2.2.2.2.1 u.2.2.2.2.2.2.2.1 u.2.2.2.2.2.2.2.2.1 u.2.2.2.2.2.2.2.2.2.1 u.2.2.2.2.2.2.2.2.2.2) (u := (I, R, CI, CJ, CR, CG, EI, ER, Eq, En, V)) hx hb hr hK hP hD hS hq dX3_face_62 hlocks
  · have hq := hq2 k_1 hk_1 ek_1
    refine lv_astore (lv' := [(6, .ref (pvH V k_1)), (0, .ref h), (1, .int p1), (2, .int p2), (3, .int p3), (4, .int p4), (5, .int p5)]) hx hb dX3_face_5 hl (by decide) rfl (fun ls hl => ?_)
    refine lv_aload hx hb dX3_face_7 (lv_at hl 0 rfl) ?_
    refine lv_ifnull hx hb dX3_face_9 ?_
    refine lv_aload_n hx hb dX3_face_12 rfl (lv_at hl 1 rfl) ?_
    refine lv_iload_n hx hb dX3_face_13 rfl (lv_at hl 3 rfl) ?_
    obtain ⟨Pc_2, hc, hq⟩ := hq
    refine w_calli (wf := fun _ : Unit => wd3 cI cJ cP h ad ad0 ad1 I R CI CJ CR CG EI ER Eq En V) (va_runV (As := [.int p2]) (rest := []) ⟨hx, hb, hml, hown, hts⟩ (tX3_isChild l dC dI cI cJ cP h ad ad0 ad1 _ Pc_2 p2 I R CI CJ CR CG EI ER Eq En V hc) (cwV 1 hts gX3_face_X3_isChild rfl rfl rfl (by decide +kernel) ⟨Nat.le_of_ble_eq_true rfl, Nat.le_of_ble_eq_true rfl⟩) (wPreVN hn hK hP hD (ci := 3) (q0 := 0) rfl rfl) rfl rfl hl.1 rfl (lv_room (Nat.le_of_ble_eq_true rfl)) dX3_face_14 ⟨Nat.le_of_ble_eq_true rfl, Nat.le_of_ble_eq_true rfl⟩) hD hS hA (fun rc_2 u H locs hp hP hD hS => ?_)
    have hq := hq rc_2 hp
    have hP : va_P (dC, dI) vwCl (wd3 cI cJ cP h ad ad0 ad1 I R CI CJ CR CG EI ER Eq En V) H := hP
    have hD : va_D A (wd3 cI cJ cP h ad ad0 ad1 I R CI CJ CR CG EI ER Eq En V) := hD
    refine lv_if_eq (tgt := 61) hx hb dX3_face_17 (by decide) (fun hc => ?_) (fun hc => ?_)
    · have hq := hq.1 hc
      refine lv_iconst (v := (-1 : Int32)) hx hb dX3_face_61 (by decide) ?_
      exact w_iret (post := fun r (u : (Nat → Int32) × (Nat → Nat → Int32) × (Nat → Int32) × (Nat → Int64) × (Nat → Nat → Int32) × (Nat → Nat → Int64) × (Nat → Int32) × (Nat → Nat → Int32) × (Nat) × (Nat) × (vS)) => post r u.1 u.2.1 u.2.2.1 u.2.2.2.1 u.2.2.2.2.1 u.2.2.2.2.2.1 u.2.2.2.2.2.2.1 u.2.2.2.2.2.2.2.1 u.2.2.2.2.2.2.2.2.1 u.2.2.2.2.2.2.2.2.2.1 u.2.2.2.2.2.2.2.2.2.2) (wf := fun u : (Nat → Int32) × (Nat → Nat → Int32) × (Nat → Int32) × (Nat → Int64) × (Nat → Nat → Int32) × (Nat → Nat → Int64) × (Nat → Int32) × (Nat → Nat → Int32) × (Nat) × (Nat) × (vS) => wd3 cI cJ cP h ad ad0 ad1 u.1 u.2.1 u.2.2.1 u.2.2.2.1 u.2.2.2.2.1 u.2.2.2.2.2.1 u.2.2.2.2.2.2.1 u.2.2.2.2.2.2.2.1 u.2.2.2.2.2.2.2.2.1 u.2.2.2.2.2.2.2.2.2.1 u.2.2.2.2.2.2.2.2.2.2) (u := (I, R, CI, CJ, CR, CG, EI, ER, Eq, En, V)) hx hb hr hK hP hD hS hq dX3_face_62 hlocks
    · have hq := hq.2 hc
      refine lv_iload_n hx hb dX3_face_20 rfl (lv_at hl 4 rfl) ?_
      refine lv_iconst (v := (0 : Int32)) hx hb dX3_face_21 (by decide) ?_
      refine lv_bipush (v := (99 : Int32)) hx hb dX3_face_22 (by decide) ?_
      obtain ⟨Pc_3, hc, hq⟩ := hq
      refine vp_callSi (W.runS (As := [.int p3, .int (0 : Int32), .int (99 : Int32)]) (rest := []) ⟨hx, hb, hml, hown, hts⟩ (tX3_within l Pc_3 p3 (0 : Int32) (99 : Int32) hc) (va_cwS 3 hts gX3_face_X3_within rfl rfl rfl (by decide +kernel) ⟨Nat.le_of_ble_eq_true rfl, Nat.le_of_ble_eq_true rfl⟩) preEq rfl rfl hl.1 rfl (lv_room (Nat.le_of_ble_eq_true rfl)) dX3_face_24 ⟨Nat.le_of_ble_eq_true rfl, Nat.le_of_ble_eq_true rfl⟩) (fun rc_3 hp => ?_)
      have hq := hq rc_3 hp
      refine lv_if_eq (tgt := 61) hx hb dX3_face_27 (by decide) (fun hc => ?_) (fun hc => ?_)
      · have hq := hq.1 hc
        refine lv_iconst (v := (-1 : Int32)) hx hb dX3_face_61 (by decide) ?_
        exact w_iret (post := fun r (u : (Nat → Int32) × (Nat → Nat → Int32) × (Nat → Int32) × (Nat → Int64) × (Nat → Nat → Int32) × (Nat → Nat → Int64) × (Nat → Int32) × (Nat → Nat → Int32) × (Nat) × (Nat) × (vS)) => post r u.1 u.2.1 u.2.2.1 u.2.2.2.1 u.2.2.2.2.1 u.2.2.2.2.2.1 u.2.2.2.2.2.2.1 u.2.2.2.2.2.2.2.1 u.2.2.2.2.2.2.2.2.1 u.2.2.2.2.2.2.2.2.2.1 u.2.2.2.2.2.2.2.2.2.2) (wf := fun u : (Nat → Int32) × (Nat → Nat → Int32) × (Nat → Int32) × (Nat → Int64) × (Nat → Nat → Int32) × (Nat → Nat → Int64) × (Nat → Int32) × (Nat → Nat → Int32) × (Nat) × (Nat) × (vS) => wd3 cI cJ cP h ad ad0 ad1 u.1 u.2.1 u.2.2.1 u.2.2.2.1 u.2.2.2.2.1 u.2.2.2.2.2.1 u.2.2.2.2.2.2.1 u.2.2.2.2.2.2.2.1 u.2.2.2.2.2.2.2.2.1 u.2.2.2.2.2.2.2.2.2.1 u.2.2.2.2.2.2.2.2.2.2) (u := (I, R, CI, CJ, CR, CG, EI, ER, Eq, En, V)) hx hb hr hK hP hD hS hq dX3_face_62 hlocks
      · have hq := hq.2 hc
        refine lv_iload hx hb dX3_face_30 (lv_at hl 5 rfl) ?_
        refine lv_iconst (v := (0 : Int32)) hx hb dX3_face_32 (by decide) ?_
        refine lv_bipush (v := (99 : Int32)) hx hb dX3_face_33 (by decide) ?_
        obtain ⟨Pc_4, hc, hq⟩ := hq
        refine vp_callSi (W.runS (As := [.int p4, .int (0 : Int32), .int (99 : Int32)]) (rest := []) ⟨hx, hb, hml, hown, hts⟩ (tX3_within l Pc_4 p4 (0 : Int32) (99 : Int32) hc) (va_cwS 3 hts gX3_face_X3_within rfl rfl rfl (by decide +kernel) ⟨Nat.le_of_ble_eq_true rfl, Nat.le_of_ble_eq_true rfl⟩) preEq rfl rfl hl.1 rfl (lv_room (Nat.le_of_ble_eq_true rfl)) dX3_face_35 ⟨Nat.le_of_ble_eq_true rfl, Nat.le_of_ble_eq_true rfl⟩) (fun rc_4 hp => ?_)
        have hq := hq rc_4 hp
        refine lv_if_eq (tgt := 61) hx hb dX3_face_38 (by decide) (fun hc => ?_) (fun hc => ?_)
        · have hq := hq.1 hc
          refine lv_iconst (v := (-1 : Int32)) hx hb dX3_face_61 (by decide) ?_
          exact w_iret (post := fun r (u : (Nat → Int32) × (Nat → Nat → Int32) × (Nat → Int32) × (Nat → Int64) × (Nat → Nat → Int32) × (Nat → Nat → Int64) × (Nat → Int32) × (Nat → Nat → Int32) × (Nat) × (Nat) × (vS)) => post r u.1 u.2.1 u.2.2.1 u.2.2.2.1 u.2.2.2.2.1 u.2.2.2.2.2.1 u.2.2.2.2.2.2.1 u.2.2.2.2.2.2.2.1 u.2.2.2.2.2.2.2.2.1 u.2.2.2.2.2.2.2.2.2.1 u.2.2.2.2.2.2.2.2.2.2) (wf := fun u : (Nat → Int32) × (Nat → Nat → Int32) × (Nat → Int32) × (Nat → Int64) × (Nat → Nat → Int32) × (Nat → Nat → Int64) × (Nat → Int32) × (Nat → Nat → Int32) × (Nat) × (Nat) × (vS) => wd3 cI cJ cP h ad ad0 ad1 u.1 u.2.1 u.2.2.1 u.2.2.2.1 u.2.2.2.2.1 u.2.2.2.2.2.1 u.2.2.2.2.2.2.1 u.2.2.2.2.2.2.2.1 u.2.2.2.2.2.2.2.2.1 u.2.2.2.2.2.2.2.2.2.1 u.2.2.2.2.2.2.2.2.2.2) (u := (I, R, CI, CJ, CR, CG, EI, ER, Eq, En, V)) hx hb hr hK hP hD hS hq dX3_face_62 hlocks
        · have hq := hq.2 hc
          refine lv_iload hx hb dX3_face_41 (lv_at hl 6 rfl) ?_
          refine lv_iconst (v := (0 : Int32)) hx hb dX3_face_43 (by decide) ?_
          refine lv_bipush (v := (20 : Int32)) hx hb dX3_face_44 (by decide) ?_
          obtain ⟨Pc_5, hc, hq⟩ := hq
          refine vp_callSi (W.runS (As := [.int p5, .int (0 : Int32), .int (20 : Int32)]) (rest := []) ⟨hx, hb, hml, hown, hts⟩ (tX3_within l Pc_5 p5 (0 : Int32) (20 : Int32) hc) (va_cwS 3 hts gX3_face_X3_within rfl rfl rfl (by decide +kernel) ⟨Nat.le_of_ble_eq_true rfl, Nat.le_of_ble_eq_true rfl⟩) preEq rfl rfl hl.1 rfl (lv_room (Nat.le_of_ble_eq_true rfl)) dX3_face_46 ⟨Nat.le_of_ble_eq_true rfl, Nat.le_of_ble_eq_true rfl⟩) (fun rc_5 hp => ?_)
          have hq := hq rc_5 hp
          refine lv_if_eq (tgt := 61) hx hb dX3_face_49 (by decide) (fun hc => ?_) (fun hc => ?_)
          · have hq := hq.1 hc
            refine lv_iconst (v := (-1 : Int32)) hx hb dX3_face_61 (by decide) ?_
            exact w_iret (post := fun r (u : (Nat → Int32) × (Nat → Nat → Int32) × (Nat → Int32) × (Nat → Int64) × (Nat → Nat → Int32) × (Nat → Nat → Int64) × (Nat → Int32) × (Nat → Nat → Int32) × (Nat) × (Nat) × (vS)) => post r u.1 u.2.1 u.2.2.1 u.2.2.2.1 u.2.2.2.2.1 u.2.2.2.2.2.1 u.2.2.2.2.2.2.1 u.2.2.2.2.2.2.2.1 u.2.2.2.2.2.2.2.2.1 u.2.2.2.2.2.2.2.2.2.1 u.2.2.2.2.2.2.2.2.2.2) (wf := fun u : (Nat → Int32) × (Nat → Nat → Int32) × (Nat → Int32) × (Nat → Int64) × (Nat → Nat → Int32) × (Nat → Nat → Int64) × (Nat → Int32) × (Nat → Nat → Int32) × (Nat) × (Nat) × (vS) => wd3 cI cJ cP h ad ad0 ad1 u.1 u.2.1 u.2.2.1 u.2.2.2.1 u.2.2.2.2.1 u.2.2.2.2.2.1 u.2.2.2.2.2.2.1 u.2.2.2.2.2.2.2.1 u.2.2.2.2.2.2.2.2.1 u.2.2.2.2.2.2.2.2.2.1 u.2.2.2.2.2.2.2.2.2.2) (u := (I, R, CI, CJ, CR, CG, EI, ER, Eq, En, V)) hx hb hr hK hP hD hS hq dX3_face_62 hlocks
          · have hq := hq.2 hc
            refine lv_aload hx hb dX3_face_52 (lv_at hl 0 rfl) ?_
            refine lv_iload_n hx hb dX3_face_54 rfl (lv_at hl 3 rfl) ?_
            obtain ⟨Pc_6, hc, hq⟩ := hq
            obtain ⟨q0, hq0⟩ := pic_in cI cJ cP h ad ad0 ad1 I R CI CJ CR CG EI ER Eq En V hk_1
            refine w_calli (wf := fun _ : Unit => wd3 cI cJ cP h ad ad0 ad1 I R CI CJ CR CG EI ER Eq En V) (va_runV (As := [.int p2]) (rest := []) ⟨hx, hb, hml, hown, hts⟩ (Met_frame_i (w' := fun _ : Unit => wd3 cI cJ cP h ad ad0 ad1 I R CI CJ CR CG EI ER Eq En V) (tys2 := [(cI, .int), (cJ, .long), (cP, .object "YearBook$Picture")]) (tX2_canHold l dC dI cI (pvH V k_1) (pvA V k_1) _ Pc_6 p2 (pvI V k_1) (pvR V k_1) hc) (p3v cI cJ cP h ad ad0 ad1 I R CI CJ CR CG EI ER Eq En V hk_1) (fun _ => (p3v cI cJ cP h ad ad0 ad1 I R CI CJ CR CG EI ER Eq En V hk_1).symm) (fun U hU => hU.sub [0] rfl)) (cwV 1 hts gX3_face_X2_canHold rfl rfl rfl (by decide +kernel) ⟨Nat.le_of_ble_eq_true rfl, Nat.le_of_ble_eq_true rfl⟩) (wPreV hK hP hD (ci := 2) (q0 := q0) rfl hq0) rfl rfl hl.1 rfl (lv_room (Nat.le_of_ble_eq_true rfl)) dX3_face_55 ⟨Nat.le_of_ble_eq_true rfl, Nat.le_of_ble_eq_true rfl⟩) hD hS hA (fun rc_6 u H locs hp hP hD hS => ?_)
            have hq := hq rc_6 hp
            have hP : va_P (dC, dI) vwCl (wd3 cI cJ cP h ad ad0 ad1 I R CI CJ CR CG EI ER Eq En V) H := hP
            have hD : va_D A (wd3 cI cJ cP h ad ad0 ad1 I R CI CJ CR CG EI ER Eq En V) := hD
            refine lv_if_ne (tgt := 63) hx hb dX3_face_58 (by decide) (fun hc => ?_) (fun hc => ?_)
            · have hq := hq.1 hc
              refine lv_aload hx hb dX3_face_63 (lv_at hl 0 rfl) ?_
              refine lv_iload_n hx hb dX3_face_65 rfl (lv_at hl 3 rfl) ?_
              refine lv_iload_n hx hb dX3_face_66 rfl (lv_at hl 4 rfl) ?_
              refine lv_iload hx hb dX3_face_67 (lv_at hl 5 rfl) ?_
              refine lv_iload hx hb dX3_face_69 (lv_at hl 6 rfl) ?_
              obtain ⟨Pc_7, hc, hq⟩ := hq
              obtain ⟨q0, hq0⟩ := pic_in cI cJ cP h ad ad0 ad1 I R CI CJ CR CG EI ER Eq En V hk_1
              refine w_callv (wf := fun u : (Nat → Int32) × (Nat → Nat → Int32) => wd3 cI cJ cP h ad ad0 ad1 I R CI CJ CR CG EI ER Eq En (pvW V k_1 u.1 u.2)) (va_runV (As := [.int p2, .int p3, .int p4, .int p5]) (rest := []) ⟨hx, hb, hml, hown, hts⟩ (Met_frame_v (w' := fun u : (Nat → Int32) × (Nat → Nat → Int32) => wd3 cI cJ cP h ad ad0 ad1 I R CI CJ CR CG EI ER Eq En (pvW V k_1 u.1 u.2)) (tys2 := [(cI, .int), (cJ, .long), (cP, .object "YearBook$Picture")]) (tX2_add l dC dI cI (pvH V k_1) (pvA V k_1) _ Pc_7 p2 p3 p4 p5 (pvI V k_1) (pvR V k_1) hc) (p3v cI cJ cP h ad ad0 ad1 I R CI CJ CR CG EI ER Eq En V hk_1) (fun u => p3w cI cJ cP h ad ad0 ad1 I R CI CJ CR CG EI ER Eq En V hk_1 u.1 u.2) (fun U hU => hU.sub [0] rfl)) (cwV 4 hts gX3_face_X2_add rfl rfl rfl (by decide +kernel) ⟨Nat.le_of_ble_eq_true rfl, Nat.le_of_ble_eq_true rfl⟩) (wPreV hK hP hD (ci := 2) (q0 := q0) rfl hq0) rfl rfl hl.1 rfl (lv_room (Nat.le_of_ble_eq_true rfl)) dX3_face_71 ⟨Nat.le_of_ble_eq_true rfl, Nat.le_of_ble_eq_true rfl⟩) hD hS hA (fun u H locs hp hP hD hS => ?_)
              obtain ⟨Ipc_7, Rpc_7⟩ := u
              have hq := hq Ipc_7 Rpc_7 hp
              have hP : va_P (dC, dI) vwCl (wd3 cI cJ cP h ad ad0 ad1 I R CI CJ CR CG EI ER Eq En (pvW V k_1 Ipc_7 Rpc_7)) H := hP
              have hD : va_D A (wd3 cI cJ cP h ad ad0 ad1 I R CI CJ CR CG EI ER Eq En (pvW V k_1 Ipc_7 Rpc_7)) := hD
              refine lv_aload hx hb dX3_face_74 (lv_at hl 0 rfl) ?_
              refine lv_aload_n hx hb dX3_face_76 rfl (lv_at hl 1 rfl) ?_
              refine va_get (D := (dC, dI)) (ci := 3) (v := .ref (ad 1)) (C := RX3) (T := TX3) (N := 9) hx hb hts nX3_face_X3 hown hK hP 0 rfl rfl 1 (by decide) (hts _ mX3_face_f13) (fun _ h9 => h9) rfl dX3_face_77 ?_
              obtain ⟨Pc_8, hc, hq⟩ := hq
              obtain ⟨q0, hq0⟩ := pic_in cI cJ cP h ad ad0 ad1 I R CI CJ CR CG EI ER Eq En (pvW V k_1 Ipc_7 Rpc_7) hk_1
              refine w_callv (wf := fun u : (Nat → Int32) × (Nat → Nat → Int32) => wd3 cI cJ cP h ad ad0 ad1 I R CI CJ CR CG EI ER Eq En (pvW (pvW V k_1 Ipc_7 Rpc_7) k_1 u.1 u.2)) (va_runV (As := [.ref (ad 1)]) (rest := []) ⟨hx, hb, hml, hown, hts⟩ (Met_frame_v (w' := fun u : (Nat → Int32) × (Nat → Nat → Int32) => wd3 cI cJ cP h ad ad0 ad1 I R CI CJ CR CG EI ER Eq En (pvW (pvW V k_1 Ipc_7 Rpc_7) k_1 u.1 u.2)) (tys2 := [(cI, .int), (cJ, .long), (cP, .object "YearBook$Picture")]) (tX2_look l dC dI cI (pvH (pvW V k_1 Ipc_7 Rpc_7) k_1) (pvA (pvW V k_1 Ipc_7 Rpc_7) k_1) (ad 1) _ Pc_8  (R 1) (pvI (pvW V k_1 Ipc_7 Rpc_7) k_1) (pvR (pvW V k_1 Ipc_7 Rpc_7) k_1) hc) (p3l cI cJ cP h ad ad0 ad1 I R CI CJ CR CG EI ER Eq En (pvW V k_1 Ipc_7 Rpc_7) hk_1) (fun u => p3m cI cJ cP h ad ad0 ad1 I R CI CJ CR CG EI ER Eq En (pvW V k_1 Ipc_7 Rpc_7) hk_1 u.1 u.2) (fun U hU => hU.sub [0] rfl)) (cwV 1 hts gX3_face_X2_look rfl rfl rfl (by decide +kernel) ⟨Nat.le_of_ble_eq_true rfl, Nat.le_of_ble_eq_true rfl⟩) (wPreV hK hP hD (ci := 2) (q0 := q0) rfl hq0) rfl rfl hl.1 rfl (lv_room (Nat.le_of_ble_eq_true rfl)) dX3_face_80 ⟨Nat.le_of_ble_eq_true rfl, Nat.le_of_ble_eq_true rfl⟩) hD hS hA (fun u H locs hp hP hD hS => ?_)
              obtain ⟨Ipc_8, Rpc_8⟩ := u
              have hq := hq Ipc_8 Rpc_8 hp
              have hP : va_P (dC, dI) vwCl (wd3 cI cJ cP h ad ad0 ad1 I R CI CJ CR CG EI ER Eq En (pvW (pvW V k_1 Ipc_7 Rpc_7) k_1 Ipc_8 Rpc_8)) H := hP
              have hD : va_D A (wd3 cI cJ cP h ad ad0 ad1 I R CI CJ CR CG EI ER Eq En (pvW (pvW V k_1 Ipc_7 Rpc_7) k_1 Ipc_8 Rpc_8)) := hD
              refine lv_aload hx hb dX3_face_83 (lv_at hl 0 rfl) ?_
              obtain ⟨q0, hq0⟩ := pic_in cI cJ cP h ad ad0 ad1 I R CI CJ CR CG EI ER Eq En (pvW (pvW V k_1 Ipc_7 Rpc_7) k_1 Ipc_8 Rpc_8) hk_1
              refine va_getN (D := (dC, dI)) (ci := 2) (v := .int (pvI (pvW (pvW V k_1 Ipc_7 Rpc_7) k_1 Ipc_8 Rpc_8) k_1 3)) (C := RX2) (T := TX2) (N := 11) (host := "YearBook") hx hb hts nX3_face_X2 hown hK hP q0 hq0 rfl 3 (by decide) (va_Nw.use rfl hn.2.2.2.2.2.2.1) (fun _ h9 => h9) rfl dX3_face_85 ?_
              exact w_iret (post := fun r (u : (Nat → Int32) × (Nat → Nat → Int32) × (Nat → Int32) × (Nat → Int64) × (Nat → Nat → Int32) × (Nat → Nat → Int64) × (Nat → Int32) × (Nat → Nat → Int32) × (Nat) × (Nat) × (vS)) => post r u.1 u.2.1 u.2.2.1 u.2.2.2.1 u.2.2.2.2.1 u.2.2.2.2.2.1 u.2.2.2.2.2.2.1 u.2.2.2.2.2.2.2.1 u.2.2.2.2.2.2.2.2.1 u.2.2.2.2.2.2.2.2.2.1 u.2.2.2.2.2.2.2.2.2.2) (wf := fun u : (Nat → Int32) × (Nat → Nat → Int32) × (Nat → Int32) × (Nat → Int64) × (Nat → Nat → Int32) × (Nat → Nat → Int64) × (Nat → Int32) × (Nat → Nat → Int32) × (Nat) × (Nat) × (vS) => wd3 cI cJ cP h ad ad0 ad1 u.1 u.2.1 u.2.2.1 u.2.2.2.1 u.2.2.2.2.1 u.2.2.2.2.2.1 u.2.2.2.2.2.2.1 u.2.2.2.2.2.2.2.1 u.2.2.2.2.2.2.2.2.1 u.2.2.2.2.2.2.2.2.2.1 u.2.2.2.2.2.2.2.2.2.2) (u := (I, R, CI, CJ, CR, CG, EI, ER, Eq, En, (pvW (pvW V k_1 Ipc_7 Rpc_7) k_1 Ipc_8 Rpc_8))) hx hb hr hK hP hD hS hq dX3_face_88 hlocks
            · have hq := hq.2 hc
              refine lv_iconst (v := (-1 : Int32)) hx hb dX3_face_61 (by decide) ?_
              exact w_iret (post := fun r (u : (Nat → Int32) × (Nat → Nat → Int32) × (Nat → Int32) × (Nat → Int64) × (Nat → Nat → Int32) × (Nat → Nat → Int64) × (Nat → Int32) × (Nat → Nat → Int32) × (Nat) × (Nat) × (vS)) => post r u.1 u.2.1 u.2.2.1 u.2.2.2.1 u.2.2.2.2.1 u.2.2.2.2.2.1 u.2.2.2.2.2.2.1 u.2.2.2.2.2.2.2.1 u.2.2.2.2.2.2.2.2.1 u.2.2.2.2.2.2.2.2.2.1 u.2.2.2.2.2.2.2.2.2.2) (wf := fun u : (Nat → Int32) × (Nat → Nat → Int32) × (Nat → Int32) × (Nat → Int64) × (Nat → Nat → Int32) × (Nat → Nat → Int64) × (Nat → Int32) × (Nat → Nat → Int32) × (Nat) × (Nat) × (vS) => wd3 cI cJ cP h ad ad0 ad1 u.1 u.2.1 u.2.2.1 u.2.2.2.1 u.2.2.2.2.1 u.2.2.2.2.2.1 u.2.2.2.2.2.2.1 u.2.2.2.2.2.2.2.1 u.2.2.2.2.2.2.2.2.1 u.2.2.2.2.2.2.2.2.2.1 u.2.2.2.2.2.2.2.2.2.2) (u := (I, R, CI, CJ, CR, CG, EI, ER, Eq, En, V)) hx hb hr hK hP hD hS hq dX3_face_62 hlocks
def qX3_fewest (mc : Nat) (ms : Nat) (post : Int32 → (Nat → Int32) → (Nat → Nat → Int32) → (Nat → Int32) → (Nat → Int64) → (Nat → Nat → Int32) → (Nat → Nat → Int64) → (Nat → Int32) → (Nat → Nat → Int32) → Nat → Nat → vS → Prop) (I : Nat → Int32) (R : Nat → Nat → Int32) (CI : Nat → Int32) (CJ : Nat → Int64) (CR : Nat → Nat → Int32) (CG : Nat → Nat → Int64) (EI : Nat → Int32) (ER : Nat → Nat → Int32) (Eq : Nat) (En : Nat) (V : vS) : Prop := ∃ (mc_1 kc_1 : Nat), (0 + mc_1 ≤ mc ∧ 0 + kc_1 ≤ ms) ∧ (∃ Pc_1 : Int32 → (Nat → Int32) → (Nat → Nat → Int32) → Nat → Nat → Prop, qX1_pagesFor mc_1 kc_1 Pc_1 (I 6) EI ER Eq En ∧ (∀ (rc_1 : Int32) (EIc_1 : Nat → Int32) (ERc_1 : Nat → Nat → Int32) (Eqc_1 : Nat) (Enc_1 : Nat), Pc_1 rc_1 EIc_1 ERc_1 Eqc_1 Enc_1 → (post rc_1 I R CI CJ CR CG EIc_1 ERc_1 Eqc_1 Enc_1 V)))
theorem mX3_fewest_f35 : Cond.fieldLink RX3 35 "YearBook" "pages" "LYearBook$Pages;" ∈ wsX3_fewest := by decide +kernel
theorem nX3_fewest_X3 : ∀ w ∈ u_ws RX3 TX3 9, w ∈ wsX3_fewest := by decide +kernel
theorem mX3_fewest_f85 : Cond.fieldLink RX3 85 "YearBook" "choice" "I" ∈ wsX3_fewest := by decide +kernel
set_option maxHeartbeats 4000000 in
set_option maxRecDepth 100000 in
theorem tX3_fewest (l : Launch) (dC : Nat → ClassId) (dI : Nat → Nat → Nat) (cI : ClassId) (cJ : ClassId) (cP : ClassId) (h : Nat) (ad ad0 ad1 : Nat → Nat)  (sz : Nat) (mc : Nat) (ms : Nat) (post : Int32 → (Nat → Int32) → (Nat → Nat → Int32) → (Nat → Int32) → (Nat → Int64) → (Nat → Nat → Int32) → (Nat → Nat → Int64) → (Nat → Int32) → (Nat → Nat → Int32) → Nat → Nat → vS → Prop) (I : Nat → Int32) (R : Nat → Nat → Int32) (CI : Nat → Int32) (CJ : Nat → Int64) (CR : Nat → Nat → Int32) (CG : Nat → Nat → Int64) (EI : Nat → Int32) (ER : Nat → Nat → Int32) (Eq : Nat) (En : Nat) (V : vS) (hq : qX3_fewest mc ms post I R CI CJ CR CG EI ER Eq En V) : Met l yX3_fewest wsX3_fewest ({ frames := 4, cells := mc, slots := ms, locals := 129 } : Room) (va_Pc [.ref h] (wPreN (dC, dI) vwCl [(cI, .int), (cJ, .long), (cP, .object "YearBook$Picture")] (wd3 cI cJ cP h ad ad0 ad1 I R CI CJ CR CG EI ER Eq En V) sz)) (va_Qi (fun r (u : (Nat → Int32) × (Nat → Nat → Int32) × (Nat → Int32) × (Nat → Int64) × (Nat → Nat → Int32) × (Nat → Nat → Int64) × (Nat → Int32) × (Nat → Nat → Int32) × (Nat) × (Nat) × (vS)) => post r u.1 u.2.1 u.2.2.1 u.2.2.2.1 u.2.2.2.2.1 u.2.2.2.2.2.1 u.2.2.2.2.2.2.1 u.2.2.2.2.2.2.2.1 u.2.2.2.2.2.2.2.2.1 u.2.2.2.2.2.2.2.2.2.1 u.2.2.2.2.2.2.2.2.2.2) (wAt (dC, dI) vwCl [(cI, .int), (cJ, .long), (cP, .object "YearBook$Picture")] (va_A (wd3 cI cJ cP h ad ad0 ad1 I R CI CJ CR CG EI ER Eq En V) sz) (fun u : (Nat → Int32) × (Nat → Nat → Int32) × (Nat → Int32) × (Nat → Int64) × (Nat → Nat → Int32) × (Nat → Nat → Int64) × (Nat → Int32) × (Nat → Nat → Int32) × (Nat) × (Nat) × (vS) => wd3 cI cJ cP h ad ad0 ad1 u.1 u.2.1 u.2.2.1 u.2.2.2.1 u.2.2.2.2.1 u.2.2.2.2.2.1 u.2.2.2.2.2.2.1 u.2.2.2.2.2.2.2.1 u.2.2.2.2.2.2.2.2.1 u.2.2.2.2.2.2.2.2.2.1 u.2.2.2.2.2.2.2.2.2.2)) (va_A (wd3 cI cJ cP h ad ad0 ad1 I R CI CJ CR CG EI ER Eq En V) sz)) mc ms (va_A (wd3 cI cJ cP h ad ad0 ad1 I R CI CJ CR CG EI ER Eq En V) sz) := by
  unfold qX3_fewest at hq
  refine Met.ofW (cc := cX3_fewest) (maxL := 1) (ret := (some .int)) (by decide) rfl ?_
  intro p e s m args below meth c s₁ B hml hv
  obtain ⟨rfl, ⟨hsz, hP, hK, hD0⟩, hn⟩ := hv
  have hx := B.exec
  have hb := B.bytes
  have hr := B.returns
  have hts := atoms_spec (ws := wsX3_fewest) B.pre
  have hown : s.vm.findClass RX3 = some m.cls := findClass_of_methodNamed B.named
  have hlocks := B.notSynchronized
  subst hsz
  have hD := hD0.self (sz := s.heap.size)
  generalize hAe : va_A (wd3 cI cJ cP h ad ad0 ad1 I R CI CJ CR CG EI ER Eq En V) s.heap.size = A at hD ⊢
  have hA : ∀ q : Nat, s.heap.size ≤ q → A q := fun q h => by rw [← hAe]; exact Or.inr h
  have hS : va_S A s.heap s.heap [] := va_S.rf
  have hl := lv_entry ([.ref h]) (n := 1) (Nat.le_of_ble_eq_true rfl)
  rw [lg_entry_eq]
  generalize (lg_sl ([.ref h]) ++ List.replicate (1 - (lg_sl ([.ref h])).length) Slot.unset).toArray = ls at hl ⊢
  have hl : lv_has ls 1 [(0, .ref h)] := hl
  have hcm : 0 ≤ mc := Nat.zero_le _
  have hsm : 0 ≤ ms := Nat.zero_le _
  refine lv_aload_n hx hb dX3_fewest_0 rfl (lv_at hl 0 rfl) ?_
  refine va_get (D := (dC, dI)) (ci := 3) (v := .ref (ad 8)) (C := RX3) (T := TX3) (N := 9) hx hb hts nX3_fewest_X3 hown hK hP 0 rfl rfl 8 (by decide) (hts _ mX3_fewest_f35) (fun _ h9 => h9) rfl dX3_fewest_1 ?_
  refine lv_aload_n hx hb dX3_fewest_4 rfl (lv_at hl 0 rfl) ?_
  refine va_get (D := (dC, dI)) (ci := 3) (v := .int (I 6)) (C := RX3) (T := TX3) (N := 9) hx hb hts nX3_fewest_X3 hown hK hP 0 rfl rfl 6 (by decide) (hts _ mX3_fewest_f85) (fun _ h9 => h9) rfl dX3_fewest_5 ?_
  obtain ⟨mc_1, kc_1, ⟨hcm, hsm⟩, Pc_1, hc, hq⟩ := hq
  refine w_calli (wf := fun u : (Nat → Int32) × (Nat → Nat → Int32) × (Nat) × (Nat) => wd3 cI cJ cP h ad ad0 ad1 I R CI CJ CR CG u.1 u.2.1 u.2.2.1 u.2.2.2 V) (va_runV (As := [.int (I 6)]) (rest := []) ⟨hx, hb, hml, hown, hts⟩ (Met_frame_i (w' := fun u : (Nat → Int32) × (Nat → Nat → Int32) × (Nat) × (Nat) => wd3 cI cJ cP h ad ad0 ad1 I R CI CJ CR CG u.1 u.2.1 u.2.2.1 u.2.2.2 V) (tys2 := [(cI, .int), (cJ, .long), (cP, .object "YearBook$Picture")]) (tX1_pagesFor l dC dI cI (ad 8) ad1 _ mc_1 kc_1 Pc_1 (I 6) EI ER Eq En hc) (p3e cI cJ cP h ad ad0 ad1 I R CI CJ CR CG EI ER Eq En V) (fun u => (p3e cI cJ cP h ad ad0 ad1 I R CI CJ CR CG u.1 u.2.1 u.2.2.1 u.2.2.2 V).symm) (fun U hU => hU.sub [0] rfl)) (cwV 1 hts gX3_fewest_X1_pagesFor rfl rfl rfl (by decide +kernel) ⟨Nat.le_of_ble_eq_true rfl, Nat.le_of_ble_eq_true rfl⟩) (wPreV hK hP hD (ci := 1) (q0 := 13) rfl rfl) rfl rfl hl.1 rfl (lv_room (Nat.le_of_ble_eq_true rfl)) dX3_fewest_8 ⟨hcm, hsm⟩) hD hS hA (fun rc_1 u H locs hp hP hD hS => ?_)
  obtain ⟨EIc_1, ERc_1, Eqc_1, Enc_1⟩ := u
  have hq := hq rc_1 EIc_1 ERc_1 Eqc_1 Enc_1 hp
  have hP : va_P (dC, dI) vwCl (wd3 cI cJ cP h ad ad0 ad1 I R CI CJ CR CG EIc_1 ERc_1 Eqc_1 Enc_1 V) H := hP
  have hD : va_D A (wd3 cI cJ cP h ad ad0 ad1 I R CI CJ CR CG EIc_1 ERc_1 Eqc_1 Enc_1 V) := hD
  refine W.widen (k := mc) (n := ms) hcm hsm ?_
  exact w_iret (post := fun r (u : (Nat → Int32) × (Nat → Nat → Int32) × (Nat → Int32) × (Nat → Int64) × (Nat → Nat → Int32) × (Nat → Nat → Int64) × (Nat → Int32) × (Nat → Nat → Int32) × (Nat) × (Nat) × (vS)) => post r u.1 u.2.1 u.2.2.1 u.2.2.2.1 u.2.2.2.2.1 u.2.2.2.2.2.1 u.2.2.2.2.2.2.1 u.2.2.2.2.2.2.2.1 u.2.2.2.2.2.2.2.2.1 u.2.2.2.2.2.2.2.2.2.1 u.2.2.2.2.2.2.2.2.2.2) (wf := fun u : (Nat → Int32) × (Nat → Nat → Int32) × (Nat → Int32) × (Nat → Int64) × (Nat → Nat → Int32) × (Nat → Nat → Int64) × (Nat → Int32) × (Nat → Nat → Int32) × (Nat) × (Nat) × (vS) => wd3 cI cJ cP h ad ad0 ad1 u.1 u.2.1 u.2.2.1 u.2.2.2.1 u.2.2.2.2.1 u.2.2.2.2.2.1 u.2.2.2.2.2.2.1 u.2.2.2.2.2.2.2.1 u.2.2.2.2.2.2.2.2.1 u.2.2.2.2.2.2.2.2.2.1 u.2.2.2.2.2.2.2.2.2.2) (u := (I, R, CI, CJ, CR, CG, EIc_1, ERc_1, Eqc_1, Enc_1, V)) hx hb hr hK hP hD hS hq dX3_fewest_11 hlocks
def zX3_lacking (post : Int32 → Prop) (I : Nat → Int32) (R : Nat → Nat → Int32) (CI : Nat → Int32) (CJ : Nat → Int64) (CR : Nat → Nat → Int32) (CG : Nat → Nat → Int64) (EI : Nat → Int32) (ER : Nat → Nat → Int32) (Eq : Nat) (En : Nat) (V : vS) (X2 : Int32 → Prop) (X14 : Int32 → Int32 → Int32 → Prop) : Prop :=
  (∀ (x1 : Int32), ((((I 2) ≤ x1) → (post (-1 : Int32))) ∧ ((¬ (I 2) ≤ x1) → (X14 x1 (0 : Int32) (0 : Int32)))) → X2 x1) ∧
  (∀ (x1 : Int32) (x2 : Int32) (x3 : Int32), ((((I 4) ≤ x3) → ((((R 5 1) ≤ x2) → (X2 (x1 + (1 : Int32)))) ∧ ((¬ (R 5 1) ≤ x2) → (post x1)))) ∧ ((¬ (I 4) ≤ x3) → (∃ Pc_1 : Int32 → Prop, qX3_shownIn Pc_1 x3 I R CI CJ CR CG EI ER Eq En V ∧ (∀ (rc_1 : Int32), Pc_1 rc_1 → (∀ x2_2 : Int32, x2_2 = x2 + ((rc_1 >>> (x1 &&& 31)) &&& (1 : Int32)) → (X14 x1 x2_2 (x3 + (1 : Int32)))))))) → X14 x1 x2 x3)
def qX3_lacking_2 (post : Int32 → Prop) (I : Nat → Int32) (R : Nat → Nat → Int32) (CI : Nat → Int32) (CJ : Nat → Int64) (CR : Nat → Nat → Int32) (CG : Nat → Nat → Int64) (EI : Nat → Int32) (ER : Nat → Nat → Int32) (Eq : Nat) (En : Nat) (V : vS) (x1 : Int32) : Prop := ∀ (X2 : Int32 → Prop) (X14 : Int32 → Int32 → Int32 → Prop), zX3_lacking post I R CI CJ CR CG EI ER Eq En V X2 X14 → X2 x1
def qX3_lacking_14 (post : Int32 → Prop) (I : Nat → Int32) (R : Nat → Nat → Int32) (CI : Nat → Int32) (CJ : Nat → Int64) (CR : Nat → Nat → Int32) (CG : Nat → Nat → Int64) (EI : Nat → Int32) (ER : Nat → Nat → Int32) (Eq : Nat) (En : Nat) (V : vS) (x1 : Int32) (x2 : Int32) (x3 : Int32) : Prop := ∀ (X2 : Int32 → Prop) (X14 : Int32 → Int32 → Int32 → Prop), zX3_lacking post I R CI CJ CR CG EI ER Eq En V X2 X14 → X14 x1 x2 x3
theorem kX3_lacking_2 {post : Int32 → Prop} {I : Nat → Int32} {R : Nat → Nat → Int32} {CI : Nat → Int32} {CJ : Nat → Int64} {CR : Nat → Nat → Int32} {CG : Nat → Nat → Int64} {EI : Nat → Int32} {ER : Nat → Nat → Int32} {Eq : Nat} {En : Nat} {V : vS} {x1 : Int32} (h : (((I 2) ≤ x1) → (post (-1 : Int32))) ∧ ((¬ (I 2) ≤ x1) → (qX3_lacking_14 post I R CI CJ CR CG EI ER Eq En V x1 (0 : Int32) (0 : Int32)))) : qX3_lacking_2 post I R CI CJ CR CG EI ER Eq En V x1 := by
  intro Z2 Z14 hcl
  refine hcl.1 x1 ?_
  refine ⟨fun c => ?_, fun c => ?_⟩
  · have h := h.1 c
    exact h
  · have h := h.2 c
    exact h _ _ hcl
theorem kX3_lacking_14 {post : Int32 → Prop} {I : Nat → Int32} {R : Nat → Nat → Int32} {CI : Nat → Int32} {CJ : Nat → Int64} {CR : Nat → Nat → Int32} {CG : Nat → Nat → Int64} {EI : Nat → Int32} {ER : Nat → Nat → Int32} {Eq : Nat} {En : Nat} {V : vS} {x1 : Int32} {x2 : Int32} {x3 : Int32} (h : (((I 4) ≤ x3) → ((((R 5 1) ≤ x2) → (qX3_lacking_2 post I R CI CJ CR CG EI ER Eq En V (x1 + (1 : Int32)))) ∧ ((¬ (R 5 1) ≤ x2) → (post x1)))) ∧ ((¬ (I 4) ≤ x3) → (∃ Pc_1 : Int32 → Prop, qX3_shownIn Pc_1 x3 I R CI CJ CR CG EI ER Eq En V ∧ (∀ (rc_1 : Int32), Pc_1 rc_1 → (∀ x2_2 : Int32, x2_2 = x2 + ((rc_1 >>> (x1 &&& 31)) &&& (1 : Int32)) → (qX3_lacking_14 post I R CI CJ CR CG EI ER Eq En V x1 x2_2 (x3 + (1 : Int32)))))))) : qX3_lacking_14 post I R CI CJ CR CG EI ER Eq En V x1 x2 x3 := by
  intro Z2 Z14 hcl
  refine hcl.2 x1 x2 x3 ?_
  refine ⟨fun c => ?_, fun c => ?_⟩
  · have h := h.1 c
    refine ⟨fun c => ?_, fun c => ?_⟩
    · have h := h.1 c
      exact h _ _ hcl
    · have h := h.2 c
      exact h
  · have h := h.2 c
    obtain ⟨P, h1, h2⟩ := h
    refine ⟨P, h1, fun b0 hp => ?_⟩
    have h := h2 b0 hp
    intro x e
    have h := h x e
    exact h _ _ hcl
def qX3_lacking (post : Int32 → Prop) (I : Nat → Int32) (R : Nat → Nat → Int32) (CI : Nat → Int32) (CJ : Nat → Int64) (CR : Nat → Nat → Int32) (CG : Nat → Nat → Int64) (EI : Nat → Int32) (ER : Nat → Nat → Int32) (Eq : Nat) (En : Nat) (V : vS) : Prop := qX3_lacking_2 post I R CI CJ CR CG EI ER Eq En V (0 : Int32)
theorem mX3_lacking_f43 : Cond.fieldLink RX3 43 "YearBook" "children" "I" ∈ wsX3_lacking := by decide +kernel
theorem nX3_lacking_X3 : ∀ w ∈ u_ws RX3 TX3 9, w ∈ wsX3_lacking := by decide +kernel
theorem mX3_lacking_f51 : Cond.fieldLink RX3 51 "YearBook" "pictureCount" "I" ∈ wsX3_lacking := by decide +kernel
theorem mX3_lacking_f22 : Cond.fieldLink RX3 22 "YearBook" "settings" "[I" ∈ wsX3_lacking := by decide +kernel
set_option maxHeartbeats 4000000 in
set_option maxRecDepth 100000 in
theorem tX3_lacking (l : Launch) (dC : Nat → ClassId) (dI : Nat → Nat → Nat) (cI : ClassId) (cJ : ClassId) (cP : ClassId) (h : Nat) (ad ad0 ad1 : Nat → Nat)  (sz : Nat) (post : Int32 → Prop) (I : Nat → Int32) (R : Nat → Nat → Int32) (CI : Nat → Int32) (CJ : Nat → Int64) (CR : Nat → Nat → Int32) (CG : Nat → Nat → Int64) (EI : Nat → Int32) (ER : Nat → Nat → Int32) (Eq : Nat) (En : Nat) (V : vS) (hq : qX3_lacking post I R CI CJ CR CG EI ER Eq En V) : Met l yX3_lacking wsX3_lacking ({ frames := 2, cells := 0, slots := 0, locals := 43 } : Room) (va_Pc [.ref h] (wPreN (dC, dI) vwCl [(cI, .int), (cJ, .long), (cP, .object "YearBook$Picture")] (wd3 cI cJ cP h ad ad0 ad1 I R CI CJ CR CG EI ER Eq En V) sz)) (va_Qi (fun r (_ : Unit) => post r ) (wAt (dC, dI) vwCl [(cI, .int), (cJ, .long), (cP, .object "YearBook$Picture")] (va_A (wd3 cI cJ cP h ad ad0 ad1 I R CI CJ CR CG EI ER Eq En V) sz) (fun _ : Unit => wd3 cI cJ cP h ad ad0 ad1 I R CI CJ CR CG EI ER Eq En V)) (va_A (wd3 cI cJ cP h ad ad0 ad1 I R CI CJ CR CG EI ER Eq En V) sz)) 0 0 (va_A (wd3 cI cJ cP h ad ad0 ad1 I R CI CJ CR CG EI ER Eq En V) sz) := by
  unfold qX3_lacking at hq
  refine Met.ofW (cc := cX3_lacking) (maxL := 4) (ret := (some .int)) (by decide) rfl ?_
  intro p e s m args below meth c s₁ B hml hv
  obtain ⟨rfl, ⟨hsz, hP, hK, hD0⟩, hn⟩ := hv
  have hx := B.exec
  have hb := B.bytes
  have hr := B.returns
  have hts := atoms_spec (ws := wsX3_lacking) B.pre
  have hown : s.vm.findClass RX3 = some m.cls := findClass_of_methodNamed B.named
  have hlocks := B.notSynchronized
  subst hsz
  have hD := hD0.self (sz := s.heap.size)
  generalize hAe : va_A (wd3 cI cJ cP h ad ad0 ad1 I R CI CJ CR CG EI ER Eq En V) s.heap.size = A at hD ⊢
  have hA : ∀ q : Nat, s.heap.size ≤ q → A q := fun q h => by rw [← hAe]; exact Or.inr h
  have hS : va_S A s.heap s.heap [] := va_S.rf
  have hZ : zX3_lacking post I R CI CJ CR CG EI ER Eq En V
      (fun (x1 : Int32) => ∀ (H : Heap) (locs : List Loc) (ls : Array Slot), va_P (dC, dI) vwCl (wd3 cI cJ cP h ad ad0 ad1 I R CI CJ CR CG EI ER Eq En V) H → va_D A (wd3 cI cJ cP h ad ad0 ad1 I R CI CJ CR CG EI ER Eq En V) → va_S A s.heap H locs → lv_has ls 4 [(0, .ref h), (1, .int x1)] → W p l e (headSpec wsX3_lacking ({ frames := 2, cells := 0, slots := 0, locals := 43 } : Room)).room s m ([.ref h] : List Value).toArray below meth c H locs 0 0 (MQ below (va_Qi (fun r (_ : Unit) => post r ) (wAt (dC, dI) vwCl [(cI, .int), (cJ, .long), (cP, .object "YearBook$Picture")] A (fun _ : Unit => wd3 cI cJ cP h ad ad0 ad1 I R CI CJ CR CG EI ER Eq En V)) A) ([.ref h] : List Value).toArray s 0 0 A) (F0 m 2 ls []))
      (fun (x1 : Int32) (x2 : Int32) (x3 : Int32) => ∀ (H : Heap) (locs : List Loc) (ls : Array Slot), va_P (dC, dI) vwCl (wd3 cI cJ cP h ad ad0 ad1 I R CI CJ CR CG EI ER Eq En V) H → va_D A (wd3 cI cJ cP h ad ad0 ad1 I R CI CJ CR CG EI ER Eq En V) → va_S A s.heap H locs → lv_has ls 4 [(0, .ref h), (1, .int x1), (2, .int x2), (3, .int x3)] → W p l e (headSpec wsX3_lacking ({ frames := 2, cells := 0, slots := 0, locals := 43 } : Room)).room s m ([.ref h] : List Value).toArray below meth c H locs 0 0 (MQ below (va_Qi (fun r (_ : Unit) => post r ) (wAt (dC, dI) vwCl [(cI, .int), (cJ, .long), (cP, .object "YearBook$Picture")] A (fun _ : Unit => wd3 cI cJ cP h ad ad0 ad1 I R CI CJ CR CG EI ER Eq En V)) A) ([.ref h] : List Value).toArray s 0 0 A) (F0 m 14 ls [])) := by
    refine ⟨?_, ?_⟩
    · intro x1 hq H locs ls hP hD hS hl
      refine lv_iload_n hx hb dX3_lacking_2 rfl (lv_at hl 1 rfl) ?_
      refine lv_aload_n hx hb dX3_lacking_3 rfl (lv_at hl 0 rfl) ?_
      refine va_get (D := (dC, dI)) (ci := 3) (v := .int (I 2)) (C := RX3) (T := TX3) (N := 9) hx hb hts nX3_lacking_X3 hown hK hP 0 rfl rfl 2 (by decide) (hts _ mX3_lacking_f43) (fun _ h9 => h9) rfl dX3_lacking_4 ?_
      refine lv_icmp_ge (tgt := 58) hx hb dX3_lacking_7 (by decide) (fun hc => ?_) (fun hc => ?_)
      · have hq := hq.1 hc
        refine lv_iconst (v := (-1 : Int32)) hx hb dX3_lacking_58 (by decide) ?_
        exact w_iret (post := fun r (_ : Unit) => post r ) (wf := fun _ : Unit => wd3 cI cJ cP h ad ad0 ad1 I R CI CJ CR CG EI ER Eq En V) (u := ()) hx hb hr hK hP hD hS hq dX3_lacking_59 hlocks
      · have hq := hq.2 hc
        refine lv_iconst (v := (0 : Int32)) hx hb dX3_lacking_10 (by decide) ?_
        refine lv_istore_n (lv' := [(2, .int (0 : Int32)), (0, .ref h), (1, .int x1)]) hx hb dX3_lacking_11 rfl hl (by decide) rfl (fun ls hl => ?_)
        refine lv_iconst (v := (0 : Int32)) hx hb dX3_lacking_12 (by decide) ?_
        refine lv_istore_n (lv' := [(3, .int (0 : Int32)), (2, .int (0 : Int32)), (0, .ref h), (1, .int x1)]) hx hb dX3_lacking_13 rfl hl (by decide) rfl (fun ls hl => ?_)
        exact hq _ _ ls hP hD hS (lv_sub hl [2, 3, 1, 0] rfl)
    · intro x1 x2 x3 hq H locs ls hP hD hS hl
      refine lv_iload_n hx hb dX3_lacking_14 rfl (lv_at hl 3 rfl) ?_
      refine lv_aload_n hx hb dX3_lacking_15 rfl (lv_at hl 0 rfl) ?_
      refine va_get (D := (dC, dI)) (ci := 3) (v := .int (I 4)) (C := RX3) (T := TX3) (N := 9) hx hb hts nX3_lacking_X3 hown hK hP 0 rfl rfl 4 (by decide) (hts _ mX3_lacking_f51) (fun _ h9 => h9) rfl dX3_lacking_16 ?_
      refine lv_icmp_ge (tgt := 40) hx hb dX3_lacking_19 (by decide) (fun hc => ?_) (fun hc => ?_)
      · have hq := hq.1 hc
        refine lv_iload_n hx hb dX3_lacking_40 rfl (lv_at hl 2 rfl) ?_
        refine lv_aload_n hx hb dX3_lacking_41 rfl (lv_at hl 0 rfl) ?_
        refine va_get (D := (dC, dI)) (ci := 3) (v := .ref (ad 5)) (C := RX3) (T := TX3) (N := 9) hx hb hts nX3_lacking_X3 hown hK hP 0 rfl rfl 5 (by decide) (hts _ mX3_lacking_f22) (fun _ h9 => h9) rfl dX3_lacking_42 ?_
        refine lv_iconst (v := (1 : Int32)) hx hb dX3_lacking_45 (by decide) ?_
        refine va_ialdk (f := R 5) hx hb hK hP 4 0 rfl rfl 1 (by decide) (by unfold vp_in; decide) dX3_lacking_46 ?_
        refine lv_icmp_ge (tgt := 52) hx hb dX3_lacking_47 (by decide) (fun hc => ?_) (fun hc => ?_)
        · have hq := hq.1 hc
          refine lv_iinc (v := x1 + (1 : Int32)) (lv' := [(1, .int (x1 + (1 : Int32))), (0, .ref h), (2, .int x2), (3, .int x3)]) hx hb dX3_lacking_52 hl (k := 1) rfl rfl (by decide) rfl (fun ls hl => ?_)
          refine lv_goto (tgt := 2) hx hb dX3_lacking_55 (by decide) ?_
          exact hq _ _ ls hP hD hS (lv_sub hl [1, 0] rfl)
        · have hq := hq.2 hc
          refine lv_iload_n hx hb dX3_lacking_50 rfl (lv_at hl 1 rfl) ?_
          exact w_iret (post := fun r (_ : Unit) => post r ) (wf := fun _ : Unit => wd3 cI cJ cP h ad ad0 ad1 I R CI CJ CR CG EI ER Eq En V) (u := ()) hx hb hr hK hP hD hS hq dX3_lacking_51 hlocks
      · have hq := hq.2 hc
        refine lv_iload_n hx hb dX3_lacking_22 rfl (lv_at hl 2 rfl) ?_
        refine lv_aload_n hx hb dX3_lacking_23 rfl (lv_at hl 0 rfl) ?_
        refine lv_iload_n hx hb dX3_lacking_24 rfl (lv_at hl 3 rfl) ?_
        obtain ⟨Pc_1, hc, hq⟩ := hq
        refine w_calli (wf := fun _ : Unit => wd3 cI cJ cP h ad ad0 ad1 I R CI CJ CR CG EI ER Eq En V) (va_runV (As := [.int x3]) (rest := [.int x2]) ⟨hx, hb, hml, hown, hts⟩ (tX3_shownIn l dC dI cI cJ cP h ad ad0 ad1 _ Pc_1 x3 I R CI CJ CR CG EI ER Eq En V hc) (cwV 1 hts gX3_lacking_X3_shownIn rfl rfl rfl (by decide +kernel) ⟨Nat.le_of_ble_eq_true rfl, Nat.le_of_ble_eq_true rfl⟩) (wPreVN hn hK hP hD (ci := 3) (q0 := 0) rfl rfl) rfl rfl hl.1 rfl (lv_room (Nat.le_of_ble_eq_true rfl)) dX3_lacking_25 ⟨Nat.le_of_ble_eq_true rfl, Nat.le_of_ble_eq_true rfl⟩) hD hS hA (fun rc_1 u H locs hp hP hD hS => ?_)
        have hq := hq rc_1 hp
        have hP : va_P (dC, dI) vwCl (wd3 cI cJ cP h ad ad0 ad1 I R CI CJ CR CG EI ER Eq En V) H := hP
        have hD : va_D A (wd3 cI cJ cP h ad ad0 ad1 I R CI CJ CR CG EI ER Eq En V) := hD
        refine lv_iload_n hx hb dX3_lacking_28 rfl (lv_at hl 1 rfl) ?_
        refine lv_ishr hx hb dX3_lacking_29 ?_
        refine lv_iconst (v := (1 : Int32)) hx hb dX3_lacking_30 (by decide) ?_
        refine lv_iand hx hb dX3_lacking_31 ?_
        refine lv_iadd hx hb dX3_lacking_32 ?_
        refine lv_topi (fun x2_2 ex2_2 => ?_)
        have hq := hq x2_2 ex2_2
        refine lv_istore_n (lv' := [(2, .int x2_2), (0, .ref h), (1, .int x1), (3, .int x3)]) hx hb dX3_lacking_33 rfl hl (by decide) rfl (fun ls hl => ?_)
        refine lv_iinc (v := x3 + (1 : Int32)) (lv' := [(3, .int (x3 + (1 : Int32))), (2, .int x2_2), (0, .ref h), (1, .int x1)]) hx hb dX3_lacking_34 hl (k := 3) rfl rfl (by decide) rfl (fun ls hl => ?_)
        refine lv_goto (tgt := 14) hx hb dX3_lacking_37 (by decide) ?_
        exact hq _ _ ls hP hD hS (lv_sub hl [2, 3, 1, 0] rfl)
  have hl := lv_entry ([.ref h]) (n := 4) (Nat.le_of_ble_eq_true rfl)
  rw [lg_entry_eq]
  generalize (lg_sl ([.ref h]) ++ List.replicate (4 - (lg_sl ([.ref h])).length) Slot.unset).toArray = ls at hl ⊢
  have hl : lv_has ls 4 [(0, .ref h)] := hl
  refine lv_iconst (v := (0 : Int32)) hx hb dX3_lacking_0 (by decide) ?_
  refine lv_istore_n (lv' := [(1, .int (0 : Int32)), (0, .ref h)]) hx hb dX3_lacking_1 rfl hl (by decide) rfl (fun ls hl => ?_)
  exact hq _ _ hZ _ _ ls hP hD hS (lv_sub hl [1, 0] rfl)
def qX3_late (mc : Nat) (ms : Nat) (post : Int32 → (Nat → Int32) → (Nat → Nat → Int32) → (Nat → Int32) → (Nat → Int64) → (Nat → Nat → Int32) → (Nat → Nat → Int64) → (Nat → Int32) → (Nat → Nat → Int32) → Nat → Nat → vS → Prop) (p1 : Int32) (I : Nat → Int32) (R : Nat → Nat → Int32) (CI : Nat → Int32) (CJ : Nat → Int64) (CR : Nat → Nat → Int32) (CG : Nat → Nat → Int64) (EI : Nat → Int32) (ER : Nat → Nat → Int32) (Eq : Nat) (En : Nat) (V : vS) : Prop := (I 4) = nI (pvN V) ∧ pvN V ≤ 14 ∧ ((p1 < 0 ∨ (I 4) ≤ p1) → (post (-1 : Int32) I R CI CJ CR CG EI ER Eq En V)) ∧ (∀ k_1 : Nat, k_1 < pvN V → p1 = nI k_1 → (∃ Pc_2 : Int32 → Prop, qX3_isChosen Pc_2 p1 I R CI CJ CR CG EI ER Eq En V ∧ (∀ (rc_2 : Int32), Pc_2 rc_2 → (((¬ rc_2 = 0) → (post (-1 : Int32) I R CI CJ CR CG EI ER Eq En V)) ∧ ((rc_2 = 0) → (((¬ (EI 3) = 0) → (∃ (mc_3 kc_3 : Nat), (0 + mc_3 ≤ mc ∧ 0 + kc_3 ≤ ms) ∧ (∃ Pc_3 : Int32 → (Nat → Int32) → (Nat → Nat → Int32) → Nat → Nat → Prop, qX1_bringIn mc_3 kc_3 Pc_3 p1 (R 5 3) EI ER Eq En ∧ (∀ (rc_3 : Int32) (EIc_3 : Nat → Int32) (ERc_3 : Nat → Nat → Int32) (Eqc_3 : Nat) (Enc_3 : Nat), Pc_3 rc_3 EIc_3 ERc_3 Eqc_3 Enc_3 → (((rc_3 = (-1 : Int32)) → (post rc_3 I R CI CJ CR CG EIc_3 ERc_3 Eqc_3 Enc_3 V)) ∧ ((¬ rc_3 = (-1 : Int32)) → (post rc_3 (va_up I 6 ((I 6) ||| ((1 : Int32) <<< (p1 &&& 31)))) R CI CJ CR CG EIc_3 ERc_3 Eqc_3 Enc_3 V))))))) ∧ (((EI 3) = 0) → (post (-1 : Int32) I R CI CJ CR CG EI ER Eq En V))))))))
theorem mX3_late_f35 : Cond.fieldLink RX3 35 "YearBook" "pages" "LYearBook$Pages;" ∈ wsX3_late := by decide +kernel
theorem nX3_late_X3 : ∀ w ∈ u_ws RX3 TX3 9, w ∈ wsX3_late := by decide +kernel
theorem nX3_late_X1 : ∀ w ∈ u_ws RX1 TX1 10, w ∈ wsX3_late := by decide +kernel
theorem mX3_late_f22 : Cond.fieldLink RX3 22 "YearBook" "settings" "[I" ∈ wsX3_late := by decide +kernel
theorem mX3_late_f85 : Cond.fieldLink RX3 85 "YearBook" "choice" "I" ∈ wsX3_late := by decide +kernel
set_option maxHeartbeats 4000000 in
set_option maxRecDepth 100000 in
theorem tX3_late (l : Launch) (dC : Nat → ClassId) (dI : Nat → Nat → Nat) (cI : ClassId) (cJ : ClassId) (cP : ClassId) (h : Nat) (ad ad0 ad1 : Nat → Nat)  (sz : Nat) (mc : Nat) (ms : Nat) (post : Int32 → (Nat → Int32) → (Nat → Nat → Int32) → (Nat → Int32) → (Nat → Int64) → (Nat → Nat → Int32) → (Nat → Nat → Int64) → (Nat → Int32) → (Nat → Nat → Int32) → Nat → Nat → vS → Prop) (p1 : Int32) (I : Nat → Int32) (R : Nat → Nat → Int32) (CI : Nat → Int32) (CJ : Nat → Int64) (CR : Nat → Nat → Int32) (CG : Nat → Nat → Int64) (EI : Nat → Int32) (ER : Nat → Nat → Int32) (Eq : Nat) (En : Nat) (V : vS) (hq : qX3_late mc ms post p1 I R CI CJ CR CG EI ER Eq En V) : Met l yX3_late wsX3_late ({ frames := 28, cells := mc, slots := ms, locals := 725 } : Room) (va_Pc [.ref h, .int p1] (wPreN (dC, dI) vwCl [(cI, .int), (cJ, .long), (cP, .object "YearBook$Picture")] (wd3 cI cJ cP h ad ad0 ad1 I R CI CJ CR CG EI ER Eq En V) sz)) (va_Qi (fun r (u : (Nat → Int32) × (Nat → Nat → Int32) × (Nat → Int32) × (Nat → Int64) × (Nat → Nat → Int32) × (Nat → Nat → Int64) × (Nat → Int32) × (Nat → Nat → Int32) × (Nat) × (Nat) × (vS)) => post r u.1 u.2.1 u.2.2.1 u.2.2.2.1 u.2.2.2.2.1 u.2.2.2.2.2.1 u.2.2.2.2.2.2.1 u.2.2.2.2.2.2.2.1 u.2.2.2.2.2.2.2.2.1 u.2.2.2.2.2.2.2.2.2.1 u.2.2.2.2.2.2.2.2.2.2) (wAt (dC, dI) vwCl [(cI, .int), (cJ, .long), (cP, .object "YearBook$Picture")] (va_A (wd3 cI cJ cP h ad ad0 ad1 I R CI CJ CR CG EI ER Eq En V) sz) (fun u : (Nat → Int32) × (Nat → Nat → Int32) × (Nat → Int32) × (Nat → Int64) × (Nat → Nat → Int32) × (Nat → Nat → Int64) × (Nat → Int32) × (Nat → Nat → Int32) × (Nat) × (Nat) × (vS) => wd3 cI cJ cP h ad ad0 ad1 u.1 u.2.1 u.2.2.1 u.2.2.2.1 u.2.2.2.2.1 u.2.2.2.2.2.1 u.2.2.2.2.2.2.1 u.2.2.2.2.2.2.2.1 u.2.2.2.2.2.2.2.2.1 u.2.2.2.2.2.2.2.2.2.1 u.2.2.2.2.2.2.2.2.2.2)) (va_A (wd3 cI cJ cP h ad ad0 ad1 I R CI CJ CR CG EI ER Eq En V) sz)) mc ms (va_A (wd3 cI cJ cP h ad ad0 ad1 I R CI CJ CR CG EI ER Eq En V) sz) := by
  unfold qX3_late at hq
  refine Met.ofW (cc := cX3_late) (maxL := 3) (ret := (some .int)) (by decide) rfl ?_
  intro p e s m args below meth c s₁ B hml hv
  obtain ⟨rfl, ⟨hsz, hP, hK, hD0⟩, hn⟩ := hv
  have hx := B.exec
  have hb := B.bytes
  have hr := B.returns
  have hts := atoms_spec (ws := wsX3_late) B.pre
  have hown : s.vm.findClass RX3 = some m.cls := findClass_of_methodNamed B.named
  have hlocks := B.notSynchronized
  subst hsz
  have hD := hD0.self (sz := s.heap.size)
  generalize hAe : va_A (wd3 cI cJ cP h ad ad0 ad1 I R CI CJ CR CG EI ER Eq En V) s.heap.size = A at hD ⊢
  have hA : ∀ q : Nat, s.heap.size ≤ q → A q := fun q h => by rw [← hAe]; exact Or.inr h
  have hS : va_S A s.heap s.heap [] := va_S.rf
  have hl := lv_entry ([.ref h, .int p1]) (n := 3) (Nat.le_of_ble_eq_true rfl)
  rw [lg_entry_eq]
  generalize (lg_sl ([.ref h, .int p1]) ++ List.replicate (3 - (lg_sl ([.ref h, .int p1])).length) Slot.unset).toArray = ls at hl ⊢
  have hl : lv_has ls 3 [(0, .ref h), (1, .int p1)] := hl
  have hcm : 0 ≤ mc := Nat.zero_le _
  have hsm : 0 ≤ ms := Nat.zero_le _
  refine lv_aload_n hx hb dX3_late_0 rfl (lv_at hl 0 rfl) ?_
  refine lv_iload_n hx hb dX3_late_1 rfl (lv_at hl 1 rfl) ?_
  obtain ⟨hI9, hN9, hq1, hq2⟩ := hq
  refine w_callq (wf := fun _ : Unit => wd3 cI cJ cP h ad ad0 ad1 I R CI CJ CR CG EI ER Eq En V) (va_runV (As := [.int p1]) (rest := []) ⟨hx, hb, hml, hown, hts⟩ (tX3_pictureAt l dC dI cI cJ cP h ad ad0 ad1 _ p1 I R CI CJ CR CG EI ER Eq En V hI9 hN9) (cwV 1 hts gX3_late_X3_pictureAt rfl rfl rfl (by decide +kernel) ⟨Nat.le_of_ble_eq_true rfl, Nat.le_of_ble_eq_true rfl⟩) (wPreVN hn hK hP hD (ci := 3) (q0 := 0) rfl rfl) rfl rfl hl.1 rfl (lv_room (Nat.le_of_ble_eq_true rfl)) dX3_late_2 ⟨hcm, hsm⟩) hD hS hA (fun r9 u9 H locs hp9 hP hD hS => ?_)
  have hP : va_P (dC, dI) vwCl (wd3 cI cJ cP h ad ad0 ad1 I R CI CJ CR CG EI ER Eq En V) H := hP
  have hD : va_D A (wd3 cI cJ cP h ad ad0 ad1 I R CI CJ CR CG EI ER Eq En V) := hD
  rcases hp9 with ⟨hc9, rfl⟩ | ⟨k_1, hk_1, ek_1, rfl⟩
  · have hq := hq1 hc9
    refine lv_ifnullN (tgt := 26) hx hb dX3_late_5 (by decide) ?_
    refine lv_iconst (v := (-1 : Int32)) hx hb dX3_late_26 (by decide) ?_
    refine W.widen (k := mc) (n := ms) hcm hsm ?_
    exact w_iret (post := fun r (u : (Nat → Int32) × (Nat → Nat → Int32) × (Nat → Int32) × (Nat → Int64) × (Nat → Nat → Int32) × (Nat → Nat → Int64) × (Nat → Int32) × (Nat → Nat → Int32) × (Nat) × (Nat) × (vS)) => post r u.1 u.2.1 u.2.2.1 u.2.2.2.1 u.2.2.2.2.1 u.2.2.2.2.2.1 u.2.2.2.2.2.2.1 u.2.2.2.2.2.2.2.1 u.2.2.2.2.2.2.2.2.1 u.2.2.2.2.2.2.2.2.2.1 u.2.2.2.2.2.2.2.2.2.2) (wf := fun u : (Nat → Int32) × (Nat → Nat → Int32) × (Nat → Int32) × (Nat → Int64) × (Nat → Nat → Int32) × (Nat → Nat → Int64) × (Nat → Int32) × (Nat → Nat → Int32) × (Nat) × (Nat) × (vS) => wd3 cI cJ cP h ad ad0 ad1 u.1 u.2.1 u.2.2.1 u.2.2.2.1 u.2.2.2.2.1 u.2.2.2.2.2.1 u.2.2.2.2.2.2.1 u.2.2.2.2.2.2.2.1 u.2.2.2.2.2.2.2.2.1 u.2.2.2.2.2.2.2.2.2.1 u.2.2.2.2.2.2.2.2.2.2) (u := (I, R, CI, CJ, CR, CG, EI, ER, Eq, En, V)) hx hb hr hK hP hD hS hq dX3_late_27 hlocks
  · have hq := hq2 k_1 hk_1 ek_1
    refine lv_ifnull hx hb dX3_late_5 ?_
    refine lv_aload_n hx hb dX3_late_8 rfl (lv_at hl 0 rfl) ?_
    refine lv_iload_n hx hb dX3_late_9 rfl (lv_at hl 1 rfl) ?_
    obtain ⟨Pc_2, hc, hq⟩ := hq
    refine w_calli (wf := fun _ : Unit => wd3 cI cJ cP h ad ad0 ad1 I R CI CJ CR CG EI ER Eq En V) (va_runV (As := [.int p1]) (rest := []) ⟨hx, hb, hml, hown, hts⟩ (tX3_isChosen l dC dI cI cJ cP h ad ad0 ad1 _ Pc_2 p1 I R CI CJ CR CG EI ER Eq En V hc) (cwV 1 hts gX3_late_X3_isChosen rfl rfl rfl (by decide +kernel) ⟨Nat.le_of_ble_eq_true rfl, Nat.le_of_ble_eq_true rfl⟩) (wPreVN hn hK hP hD (ci := 3) (q0 := 0) rfl rfl) rfl rfl hl.1 rfl (lv_room (Nat.le_of_ble_eq_true rfl)) dX3_late_10 ⟨hcm, hsm⟩) hD hS hA (fun rc_2 u H locs hp hP hD hS => ?_)
    have hq := hq rc_2 hp
    have hP : va_P (dC, dI) vwCl (wd3 cI cJ cP h ad ad0 ad1 I R CI CJ CR CG EI ER Eq En V) H := hP
    have hD : va_D A (wd3 cI cJ cP h ad ad0 ad1 I R CI CJ CR CG EI ER Eq En V) := hD
    refine lv_if_ne (tgt := 26) hx hb dX3_late_13 (by decide) (fun hc => ?_) (fun hc => ?_)
    · have hq := hq.1 hc
      refine lv_iconst (v := (-1 : Int32)) hx hb dX3_late_26 (by decide) ?_
      refine W.widen (k := mc) (n := ms) hcm hsm ?_
      exact w_iret (post := fun r (u : (Nat → Int32) × (Nat → Nat → Int32) × (Nat → Int32) × (Nat → Int64) × (Nat → Nat → Int32) × (Nat → Nat → Int64) × (Nat → Int32) × (Nat → Nat → Int32) × (Nat) × (Nat) × (vS)) => post r u.1 u.2.1 u.2.2.1 u.2.2.2.1 u.2.2.2.2.1 u.2.2.2.2.2.1 u.2.2.2.2.2.2.1 u.2.2.2.2.2.2.2.1 u.2.2.2.2.2.2.2.2.1 u.2.2.2.2.2.2.2.2.2.1 u.2.2.2.2.2.2.2.2.2.2) (wf := fun u : (Nat → Int32) × (Nat → Nat → Int32) × (Nat → Int32) × (Nat → Int64) × (Nat → Nat → Int32) × (Nat → Nat → Int64) × (Nat → Int32) × (Nat → Nat → Int32) × (Nat) × (Nat) × (vS) => wd3 cI cJ cP h ad ad0 ad1 u.1 u.2.1 u.2.2.1 u.2.2.2.1 u.2.2.2.2.1 u.2.2.2.2.2.1 u.2.2.2.2.2.2.1 u.2.2.2.2.2.2.2.1 u.2.2.2.2.2.2.2.2.1 u.2.2.2.2.2.2.2.2.2.1 u.2.2.2.2.2.2.2.2.2.2) (u := (I, R, CI, CJ, CR, CG, EI, ER, Eq, En, V)) hx hb hr hK hP hD hS hq dX3_late_27 hlocks
    · have hq := hq.2 hc
      refine lv_aload_n hx hb dX3_late_16 rfl (lv_at hl 0 rfl) ?_
      refine va_get (D := (dC, dI)) (ci := 3) (v := .ref (ad 8)) (C := RX3) (T := TX3) (N := 9) hx hb hts nX3_late_X3 hown hK hP 0 rfl rfl 8 (by decide) (hts _ mX3_late_f35) (fun _ h9 => h9) rfl dX3_late_17 ?_
      refine va_getN (D := (dC, dI)) (ci := 1) (v := .int (EI 3)) (C := RX1) (T := TX1) (N := 10) (host := "YearBook") hx hb hts nX3_late_X1 hown hK hP 13 rfl rfl 3 (by decide) (va_Nw.use rfl hn.2.2.1) (fun _ h9 => h9) rfl dX3_late_20 ?_
      refine lv_if_ne (tgt := 28) hx hb dX3_late_23 (by decide) (fun hc => ?_) (fun hc => ?_)
      · have hq := hq.1 hc
        refine lv_aload_n hx hb dX3_late_28 rfl (lv_at hl 0 rfl) ?_
        refine va_get (D := (dC, dI)) (ci := 3) (v := .ref (ad 8)) (C := RX3) (T := TX3) (N := 9) hx hb hts nX3_late_X3 hown hK hP 0 rfl rfl 8 (by decide) (hts _ mX3_late_f35) (fun _ h9 => h9) rfl dX3_late_29 ?_
        refine lv_iload_n hx hb dX3_late_32 rfl (lv_at hl 1 rfl) ?_
        refine lv_aload_n hx hb dX3_late_33 rfl (lv_at hl 0 rfl) ?_
        refine va_get (D := (dC, dI)) (ci := 3) (v := .ref (ad 5)) (C := RX3) (T := TX3) (N := 9) hx hb hts nX3_late_X3 hown hK hP 0 rfl rfl 5 (by decide) (hts _ mX3_late_f22) (fun _ h9 => h9) rfl dX3_late_34 ?_
        refine lv_iconst (v := (3 : Int32)) hx hb dX3_late_37 (by decide) ?_
        refine va_ialdk (f := R 5) hx hb hK hP 4 0 rfl rfl 3 (by decide) (by unfold vp_in; decide) dX3_late_38 ?_
        obtain ⟨mc_3, kc_3, ⟨hcm, hsm⟩, Pc_3, hc, hq⟩ := hq
        refine w_calli (wf := fun u : (Nat → Int32) × (Nat → Nat → Int32) × (Nat) × (Nat) => wd3 cI cJ cP h ad ad0 ad1 I R CI CJ CR CG u.1 u.2.1 u.2.2.1 u.2.2.2 V) (va_runV (As := [.int p1, .int (R 5 3)]) (rest := []) ⟨hx, hb, hml, hown, hts⟩ (Met_frame_i (w' := fun u : (Nat → Int32) × (Nat → Nat → Int32) × (Nat) × (Nat) => wd3 cI cJ cP h ad ad0 ad1 I R CI CJ CR CG u.1 u.2.1 u.2.2.1 u.2.2.2 V) (tys2 := [(cI, .int), (cJ, .long), (cP, .object "YearBook$Picture")]) (tX1_bringIn l dC dI cI (ad 8) ad1 _ mc_3 kc_3 Pc_3 p1 (R 5 3) EI ER Eq En hc) (p3e cI cJ cP h ad ad0 ad1 I R CI CJ CR CG EI ER Eq En V) (fun u => (p3e cI cJ cP h ad ad0 ad1 I R CI CJ CR CG u.1 u.2.1 u.2.2.1 u.2.2.2 V).symm) (fun U hU => hU.sub [0] rfl)) (cwV 2 hts gX3_late_X1_bringIn rfl rfl rfl (by decide +kernel) ⟨Nat.le_of_ble_eq_true rfl, Nat.le_of_ble_eq_true rfl⟩) (wPreV hK hP hD (ci := 1) (q0 := 13) rfl rfl) rfl rfl hl.1 rfl (lv_room (Nat.le_of_ble_eq_true rfl)) dX3_late_39 ⟨hcm, hsm⟩) hD hS hA (fun rc_3 u H locs hp hP hD hS => ?_)
        obtain ⟨EIc_3, ERc_3, Eqc_3, Enc_3⟩ := u
        have hq := hq rc_3 EIc_3 ERc_3 Eqc_3 Enc_3 hp
        have hP : va_P (dC, dI) vwCl (wd3 cI cJ cP h ad ad0 ad1 I R CI CJ CR CG EIc_3 ERc_3 Eqc_3 Enc_3 V) H := hP
        have hD : va_D A (wd3 cI cJ cP h ad ad0 ad1 I R CI CJ CR CG EIc_3 ERc_3 Eqc_3 Enc_3 V) := hD
        refine lv_istore_n (lv' := [(2, .int rc_3), (0, .ref h), (1, .int p1)]) hx hb dX3_late_42 rfl hl (by decide) rfl (fun ls hl => ?_)
        refine lv_iload_n hx hb dX3_late_43 rfl (lv_at hl 0 rfl) ?_
        refine lv_iconst (v := (-1 : Int32)) hx hb dX3_late_44 (by decide) ?_
        refine lv_icmp_eq (tgt := 60) hx hb dX3_late_45 (by decide) (fun hc => ?_) (fun hc => ?_)
        · have hq := hq.1 hc
          refine lv_iload_n hx hb dX3_late_60 rfl (lv_at hl 0 rfl) ?_
          refine W.widen (k := mc) (n := ms) hcm hsm ?_
          exact w_iret (post := fun r (u : (Nat → Int32) × (Nat → Nat → Int32) × (Nat → Int32) × (Nat → Int64) × (Nat → Nat → Int32) × (Nat → Nat → Int64) × (Nat → Int32) × (Nat → Nat → Int32) × (Nat) × (Nat) × (vS)) => post r u.1 u.2.1 u.2.2.1 u.2.2.2.1 u.2.2.2.2.1 u.2.2.2.2.2.1 u.2.2.2.2.2.2.1 u.2.2.2.2.2.2.2.1 u.2.2.2.2.2.2.2.2.1 u.2.2.2.2.2.2.2.2.2.1 u.2.2.2.2.2.2.2.2.2.2) (wf := fun u : (Nat → Int32) × (Nat → Nat → Int32) × (Nat → Int32) × (Nat → Int64) × (Nat → Nat → Int32) × (Nat → Nat → Int64) × (Nat → Int32) × (Nat → Nat → Int32) × (Nat) × (Nat) × (vS) => wd3 cI cJ cP h ad ad0 ad1 u.1 u.2.1 u.2.2.1 u.2.2.2.1 u.2.2.2.2.1 u.2.2.2.2.2.1 u.2.2.2.2.2.2.1 u.2.2.2.2.2.2.2.1 u.2.2.2.2.2.2.2.2.1 u.2.2.2.2.2.2.2.2.2.1 u.2.2.2.2.2.2.2.2.2.2) (u := (I, R, CI, CJ, CR, CG, EIc_3, ERc_3, Eqc_3, Enc_3, V)) hx hb hr hK hP hD hS hq dX3_late_61 hlocks
        · have hq := hq.2 hc
          refine lv_aload_n hx hb dX3_late_48 rfl (lv_at hl 1 rfl) ?_
          refine lv_dup hx hb dX3_late_49 rfl ?_
          refine va_get (D := (dC, dI)) (ci := 3) (v := .int (I 6)) (C := RX3) (T := TX3) (N := 9) hx hb hts nX3_late_X3 hown hK hP 0 rfl rfl 6 (by decide) (hts _ mX3_late_f85) (fun _ h9 => h9) rfl dX3_late_50 ?_
          refine lv_iconst (v := (1 : Int32)) hx hb dX3_late_53 (by decide) ?_
          refine lv_iload_n hx hb dX3_late_54 rfl (lv_at hl 2 rfl) ?_
          refine lv_ishl hx hb dX3_late_55 ?_
          refine lv_ior hx hb dX3_late_56 ?_
          refine va_put (D := (dC, dI)) (ci := 3) (v := .int ((I 6) ||| ((1 : Int32) <<< (p1 &&& 31)))) (ty := .int) (C := RX3) (T := TX3) (N := 9) hx hb hts nX3_late_X3 tyX3 tyX3_ok nmX3 hown hK hP hD hS 0 rfl rfl 6 (by decide) (hts _ mX3_late_f85) (fun _ h9 => h9) rfl (by decide +kernel) rfl rfl (Nat.le_of_ble_eq_true rfl) dX3_late_57 (fun H locs hP hD hS => ?_)
          rw [wd3_I6] at hP hD
          refine lv_iload_n hx hb dX3_late_60 rfl (lv_at hl 0 rfl) ?_
          refine W.widen (k := mc) (n := ms) hcm hsm ?_
          exact w_iret (post := fun r (u : (Nat → Int32) × (Nat → Nat → Int32) × (Nat → Int32) × (Nat → Int64) × (Nat → Nat → Int32) × (Nat → Nat → Int64) × (Nat → Int32) × (Nat → Nat → Int32) × (Nat) × (Nat) × (vS)) => post r u.1 u.2.1 u.2.2.1 u.2.2.2.1 u.2.2.2.2.1 u.2.2.2.2.2.1 u.2.2.2.2.2.2.1 u.2.2.2.2.2.2.2.1 u.2.2.2.2.2.2.2.2.1 u.2.2.2.2.2.2.2.2.2.1 u.2.2.2.2.2.2.2.2.2.2) (wf := fun u : (Nat → Int32) × (Nat → Nat → Int32) × (Nat → Int32) × (Nat → Int64) × (Nat → Nat → Int32) × (Nat → Nat → Int64) × (Nat → Int32) × (Nat → Nat → Int32) × (Nat) × (Nat) × (vS) => wd3 cI cJ cP h ad ad0 ad1 u.1 u.2.1 u.2.2.1 u.2.2.2.1 u.2.2.2.2.1 u.2.2.2.2.2.1 u.2.2.2.2.2.2.1 u.2.2.2.2.2.2.2.1 u.2.2.2.2.2.2.2.2.1 u.2.2.2.2.2.2.2.2.2.1 u.2.2.2.2.2.2.2.2.2.2) (u := (va_up I 6 ((I 6) ||| ((1 : Int32) <<< (p1 &&& 31))), R, CI, CJ, CR, CG, EIc_3, ERc_3, Eqc_3, Enc_3, V)) hx hb hr hK hP hD hS hq dX3_late_61 hlocks
      · have hq := hq.2 hc
        refine lv_iconst (v := (-1 : Int32)) hx hb dX3_late_26 (by decide) ?_
        refine W.widen (k := mc) (n := ms) hcm hsm ?_
        exact w_iret (post := fun r (u : (Nat → Int32) × (Nat → Nat → Int32) × (Nat → Int32) × (Nat → Int64) × (Nat → Nat → Int32) × (Nat → Nat → Int64) × (Nat → Int32) × (Nat → Nat → Int32) × (Nat) × (Nat) × (vS)) => post r u.1 u.2.1 u.2.2.1 u.2.2.2.1 u.2.2.2.2.1 u.2.2.2.2.2.1 u.2.2.2.2.2.2.1 u.2.2.2.2.2.2.2.1 u.2.2.2.2.2.2.2.2.1 u.2.2.2.2.2.2.2.2.2.1 u.2.2.2.2.2.2.2.2.2.2) (wf := fun u : (Nat → Int32) × (Nat → Nat → Int32) × (Nat → Int32) × (Nat → Int64) × (Nat → Nat → Int32) × (Nat → Nat → Int64) × (Nat → Int32) × (Nat → Nat → Int32) × (Nat) × (Nat) × (vS) => wd3 cI cJ cP h ad ad0 ad1 u.1 u.2.1 u.2.2.1 u.2.2.2.1 u.2.2.2.2.1 u.2.2.2.2.2.1 u.2.2.2.2.2.2.1 u.2.2.2.2.2.2.2.1 u.2.2.2.2.2.2.2.2.1 u.2.2.2.2.2.2.2.2.2.1 u.2.2.2.2.2.2.2.2.2.2) (u := (I, R, CI, CJ, CR, CG, EI, ER, Eq, En, V)) hx hb hr hK hP hD hS hq dX3_late_27 hlocks
def qX3_lay (mc : Nat) (ms : Nat) (post : Int32 → (Nat → Int32) → (Nat → Nat → Int32) → (Nat → Int32) → (Nat → Int64) → (Nat → Nat → Int32) → (Nat → Nat → Int64) → (Nat → Int32) → (Nat → Nat → Int32) → Nat → Nat → vS → Prop) (I : Nat → Int32) (R : Nat → Nat → Int32) (CI : Nat → Int32) (CJ : Nat → Int64) (CR : Nat → Nat → Int32) (CG : Nat → Nat → Int64) (EI : Nat → Int32) (ER : Nat → Nat → Int32) (Eq : Nat) (En : Nat) (V : vS) : Prop := ∃ (mc_1 kc_1 : Nat), (0 + mc_1 ≤ mc ∧ 0 + kc_1 ≤ ms) ∧ (∃ Pc_1 : Int32 → (Nat → Int32) → (Nat → Nat → Int32) → Nat → Nat → Prop, qX1_layOut mc_1 kc_1 Pc_1 (I 6) (R 5 3) EI ER Eq En ∧ (∀ (rc_1 : Int32) (EIc_1 : Nat → Int32) (ERc_1 : Nat → Nat → Int32) (Eqc_1 : Nat) (Enc_1 : Nat), Pc_1 rc_1 EIc_1 ERc_1 Eqc_1 Enc_1 → (post rc_1 I R CI CJ CR CG EIc_1 ERc_1 Eqc_1 Enc_1 V)))
theorem mX3_lay_f35 : Cond.fieldLink RX3 35 "YearBook" "pages" "LYearBook$Pages;" ∈ wsX3_lay := by decide +kernel
theorem nX3_lay_X3 : ∀ w ∈ u_ws RX3 TX3 9, w ∈ wsX3_lay := by decide +kernel
theorem mX3_lay_f85 : Cond.fieldLink RX3 85 "YearBook" "choice" "I" ∈ wsX3_lay := by decide +kernel
theorem mX3_lay_f22 : Cond.fieldLink RX3 22 "YearBook" "settings" "[I" ∈ wsX3_lay := by decide +kernel
set_option maxHeartbeats 4000000 in
set_option maxRecDepth 100000 in
theorem tX3_lay (l : Launch) (dC : Nat → ClassId) (dI : Nat → Nat → Nat) (cI : ClassId) (cJ : ClassId) (cP : ClassId) (h : Nat) (ad ad0 ad1 : Nat → Nat)  (sz : Nat) (mc : Nat) (ms : Nat) (post : Int32 → (Nat → Int32) → (Nat → Nat → Int32) → (Nat → Int32) → (Nat → Int64) → (Nat → Nat → Int32) → (Nat → Nat → Int64) → (Nat → Int32) → (Nat → Nat → Int32) → Nat → Nat → vS → Prop) (I : Nat → Int32) (R : Nat → Nat → Int32) (CI : Nat → Int32) (CJ : Nat → Int64) (CR : Nat → Nat → Int32) (CG : Nat → Nat → Int64) (EI : Nat → Int32) (ER : Nat → Nat → Int32) (Eq : Nat) (En : Nat) (V : vS) (hq : qX3_lay mc ms post I R CI CJ CR CG EI ER Eq En V) : Met l yX3_lay wsX3_lay ({ frames := 28, cells := mc, slots := ms, locals := 723 } : Room) (va_Pc [.ref h] (wPreN (dC, dI) vwCl [(cI, .int), (cJ, .long), (cP, .object "YearBook$Picture")] (wd3 cI cJ cP h ad ad0 ad1 I R CI CJ CR CG EI ER Eq En V) sz)) (va_Qi (fun r (u : (Nat → Int32) × (Nat → Nat → Int32) × (Nat → Int32) × (Nat → Int64) × (Nat → Nat → Int32) × (Nat → Nat → Int64) × (Nat → Int32) × (Nat → Nat → Int32) × (Nat) × (Nat) × (vS)) => post r u.1 u.2.1 u.2.2.1 u.2.2.2.1 u.2.2.2.2.1 u.2.2.2.2.2.1 u.2.2.2.2.2.2.1 u.2.2.2.2.2.2.2.1 u.2.2.2.2.2.2.2.2.1 u.2.2.2.2.2.2.2.2.2.1 u.2.2.2.2.2.2.2.2.2.2) (wAt (dC, dI) vwCl [(cI, .int), (cJ, .long), (cP, .object "YearBook$Picture")] (va_A (wd3 cI cJ cP h ad ad0 ad1 I R CI CJ CR CG EI ER Eq En V) sz) (fun u : (Nat → Int32) × (Nat → Nat → Int32) × (Nat → Int32) × (Nat → Int64) × (Nat → Nat → Int32) × (Nat → Nat → Int64) × (Nat → Int32) × (Nat → Nat → Int32) × (Nat) × (Nat) × (vS) => wd3 cI cJ cP h ad ad0 ad1 u.1 u.2.1 u.2.2.1 u.2.2.2.1 u.2.2.2.2.1 u.2.2.2.2.2.1 u.2.2.2.2.2.2.1 u.2.2.2.2.2.2.2.1 u.2.2.2.2.2.2.2.2.1 u.2.2.2.2.2.2.2.2.2.1 u.2.2.2.2.2.2.2.2.2.2)) (va_A (wd3 cI cJ cP h ad ad0 ad1 I R CI CJ CR CG EI ER Eq En V) sz)) mc ms (va_A (wd3 cI cJ cP h ad ad0 ad1 I R CI CJ CR CG EI ER Eq En V) sz) := by
  unfold qX3_lay at hq
  refine Met.ofW (cc := cX3_lay) (maxL := 1) (ret := (some .int)) (by decide) rfl ?_
  intro p e s m args below meth c s₁ B hml hv
  obtain ⟨rfl, ⟨hsz, hP, hK, hD0⟩, hn⟩ := hv
  have hx := B.exec
  have hb := B.bytes
  have hr := B.returns
  have hts := atoms_spec (ws := wsX3_lay) B.pre
  have hown : s.vm.findClass RX3 = some m.cls := findClass_of_methodNamed B.named
  have hlocks := B.notSynchronized
  subst hsz
  have hD := hD0.self (sz := s.heap.size)
  generalize hAe : va_A (wd3 cI cJ cP h ad ad0 ad1 I R CI CJ CR CG EI ER Eq En V) s.heap.size = A at hD ⊢
  have hA : ∀ q : Nat, s.heap.size ≤ q → A q := fun q h => by rw [← hAe]; exact Or.inr h
  have hS : va_S A s.heap s.heap [] := va_S.rf
  have hl := lv_entry ([.ref h]) (n := 1) (Nat.le_of_ble_eq_true rfl)
  rw [lg_entry_eq]
  generalize (lg_sl ([.ref h]) ++ List.replicate (1 - (lg_sl ([.ref h])).length) Slot.unset).toArray = ls at hl ⊢
  have hl : lv_has ls 1 [(0, .ref h)] := hl
  have hcm : 0 ≤ mc := Nat.zero_le _
  have hsm : 0 ≤ ms := Nat.zero_le _
  refine lv_aload_n hx hb dX3_lay_0 rfl (lv_at hl 0 rfl) ?_
  refine va_get (D := (dC, dI)) (ci := 3) (v := .ref (ad 8)) (C := RX3) (T := TX3) (N := 9) hx hb hts nX3_lay_X3 hown hK hP 0 rfl rfl 8 (by decide) (hts _ mX3_lay_f35) (fun _ h9 => h9) rfl dX3_lay_1 ?_
  refine lv_aload_n hx hb dX3_lay_4 rfl (lv_at hl 0 rfl) ?_
  refine va_get (D := (dC, dI)) (ci := 3) (v := .int (I 6)) (C := RX3) (T := TX3) (N := 9) hx hb hts nX3_lay_X3 hown hK hP 0 rfl rfl 6 (by decide) (hts _ mX3_lay_f85) (fun _ h9 => h9) rfl dX3_lay_5 ?_
  refine lv_aload_n hx hb dX3_lay_8 rfl (lv_at hl 0 rfl) ?_
  refine va_get (D := (dC, dI)) (ci := 3) (v := .ref (ad 5)) (C := RX3) (T := TX3) (N := 9) hx hb hts nX3_lay_X3 hown hK hP 0 rfl rfl 5 (by decide) (hts _ mX3_lay_f22) (fun _ h9 => h9) rfl dX3_lay_9 ?_
  refine lv_iconst (v := (3 : Int32)) hx hb dX3_lay_12 (by decide) ?_
  refine va_ialdk (f := R 5) hx hb hK hP 4 0 rfl rfl 3 (by decide) (by unfold vp_in; decide) dX3_lay_13 ?_
  obtain ⟨mc_1, kc_1, ⟨hcm, hsm⟩, Pc_1, hc, hq⟩ := hq
  refine w_calli (wf := fun u : (Nat → Int32) × (Nat → Nat → Int32) × (Nat) × (Nat) => wd3 cI cJ cP h ad ad0 ad1 I R CI CJ CR CG u.1 u.2.1 u.2.2.1 u.2.2.2 V) (va_runV (As := [.int (I 6), .int (R 5 3)]) (rest := []) ⟨hx, hb, hml, hown, hts⟩ (Met_frame_i (w' := fun u : (Nat → Int32) × (Nat → Nat → Int32) × (Nat) × (Nat) => wd3 cI cJ cP h ad ad0 ad1 I R CI CJ CR CG u.1 u.2.1 u.2.2.1 u.2.2.2 V) (tys2 := [(cI, .int), (cJ, .long), (cP, .object "YearBook$Picture")]) (tX1_layOut l dC dI cI (ad 8) ad1 _ mc_1 kc_1 Pc_1 (I 6) (R 5 3) EI ER Eq En hc) (p3e cI cJ cP h ad ad0 ad1 I R CI CJ CR CG EI ER Eq En V) (fun u => (p3e cI cJ cP h ad ad0 ad1 I R CI CJ CR CG u.1 u.2.1 u.2.2.1 u.2.2.2 V).symm) (fun U hU => hU.sub [0] rfl)) (cwV 2 hts gX3_lay_X1_layOut rfl rfl rfl (by decide +kernel) ⟨Nat.le_of_ble_eq_true rfl, Nat.le_of_ble_eq_true rfl⟩) (wPreV hK hP hD (ci := 1) (q0 := 13) rfl rfl) rfl rfl hl.1 rfl (lv_room (Nat.le_of_ble_eq_true rfl)) dX3_lay_14 ⟨hcm, hsm⟩) hD hS hA (fun rc_1 u H locs hp hP hD hS => ?_)
  obtain ⟨EIc_1, ERc_1, Eqc_1, Enc_1⟩ := u
  have hq := hq rc_1 EIc_1 ERc_1 Eqc_1 Enc_1 hp
  have hP : va_P (dC, dI) vwCl (wd3 cI cJ cP h ad ad0 ad1 I R CI CJ CR CG EIc_1 ERc_1 Eqc_1 Enc_1 V) H := hP
  have hD : va_D A (wd3 cI cJ cP h ad ad0 ad1 I R CI CJ CR CG EIc_1 ERc_1 Eqc_1 Enc_1 V) := hD
  refine W.widen (k := mc) (n := ms) hcm hsm ?_
  exact w_iret (post := fun r (u : (Nat → Int32) × (Nat → Nat → Int32) × (Nat → Int32) × (Nat → Int64) × (Nat → Nat → Int32) × (Nat → Nat → Int64) × (Nat → Int32) × (Nat → Nat → Int32) × (Nat) × (Nat) × (vS)) => post r u.1 u.2.1 u.2.2.1 u.2.2.2.1 u.2.2.2.2.1 u.2.2.2.2.2.1 u.2.2.2.2.2.2.1 u.2.2.2.2.2.2.2.1 u.2.2.2.2.2.2.2.2.1 u.2.2.2.2.2.2.2.2.2.1 u.2.2.2.2.2.2.2.2.2.2) (wf := fun u : (Nat → Int32) × (Nat → Nat → Int32) × (Nat → Int32) × (Nat → Int64) × (Nat → Nat → Int32) × (Nat → Nat → Int64) × (Nat → Int32) × (Nat → Nat → Int32) × (Nat) × (Nat) × (vS) => wd3 cI cJ cP h ad ad0 ad1 u.1 u.2.1 u.2.2.1 u.2.2.2.1 u.2.2.2.2.1 u.2.2.2.2.2.1 u.2.2.2.2.2.2.1 u.2.2.2.2.2.2.2.1 u.2.2.2.2.2.2.2.2.1 u.2.2.2.2.2.2.2.2.2.1 u.2.2.2.2.2.2.2.2.2.2) (u := (I, R, CI, CJ, CR, CG, EIc_1, ERc_1, Eqc_1, Enc_1, V)) hx hb hr hK hP hD hS hq dX3_lay_17 hlocks
def qX3_left (post : Int32 → Prop) (p1 : Int32) (I : Nat → Int32) (R : Nat → Nat → Int32) (CI : Nat → Int32) (CJ : Nat → Int64) (CR : Nat → Nat → Int32) (CG : Nat → Nat → Int64) (EI : Nat → Int32) (ER : Nat → Nat → Int32) (Eq : Nat) (En : Nat) (V : vS) : Prop := ∃ Pc_1 : Int32 → Prop, qX1_has Pc_1 p1 EI ER Eq En ∧ (∀ (rc_1 : Int32), Pc_1 rc_1 → (((rc_1 = 0) → (post (-1 : Int32))) ∧ ((¬ rc_1 = 0) → (vp_in p1 14 ∧ (∀ v_3 : Int32, v_3 = (ER 2) p1.toNatClampNeg → (∃ Pc_4 : Int32 → Prop, qX1_pointsOf Pc_4 v_3 EI ER Eq En ∧ (∀ (rc_4 : Int32), Pc_4 rc_4 → (post ((12 : Int32) - rc_4)))))))))
theorem mX3_left_f35 : Cond.fieldLink RX3 35 "YearBook" "pages" "LYearBook$Pages;" ∈ wsX3_left := by decide +kernel
theorem nX3_left_X3 : ∀ w ∈ u_ws RX3 TX3 9, w ∈ wsX3_left := by decide +kernel
theorem nX3_left_X1 : ∀ w ∈ u_ws RX1 TX1 10, w ∈ wsX3_left := by decide +kernel
set_option maxHeartbeats 4000000 in
set_option maxRecDepth 100000 in
theorem tX3_left (l : Launch) (dC : Nat → ClassId) (dI : Nat → Nat → Nat) (cI : ClassId) (cJ : ClassId) (cP : ClassId) (h : Nat) (ad ad0 ad1 : Nat → Nat)  (sz : Nat) (post : Int32 → Prop) (p1 : Int32) (I : Nat → Int32) (R : Nat → Nat → Int32) (CI : Nat → Int32) (CJ : Nat → Int64) (CR : Nat → Nat → Int32) (CG : Nat → Nat → Int64) (EI : Nat → Int32) (ER : Nat → Nat → Int32) (Eq : Nat) (En : Nat) (V : vS) (hq : qX3_left post p1 I R CI CJ CR CG EI ER Eq En V) : Met l yX3_left wsX3_left ({ frames := 1, cells := 0, slots := 0, locals := 23 } : Room) (va_Pc [.ref h, .int p1] (wPreN (dC, dI) vwCl [(cI, .int), (cJ, .long), (cP, .object "YearBook$Picture")] (wd3 cI cJ cP h ad ad0 ad1 I R CI CJ CR CG EI ER Eq En V) sz)) (va_Qi (fun r (_ : Unit) => post r ) (wAt (dC, dI) vwCl [(cI, .int), (cJ, .long), (cP, .object "YearBook$Picture")] (va_A (wd3 cI cJ cP h ad ad0 ad1 I R CI CJ CR CG EI ER Eq En V) sz) (fun _ : Unit => wd3 cI cJ cP h ad ad0 ad1 I R CI CJ CR CG EI ER Eq En V)) (va_A (wd3 cI cJ cP h ad ad0 ad1 I R CI CJ CR CG EI ER Eq En V) sz)) 0 0 (va_A (wd3 cI cJ cP h ad ad0 ad1 I R CI CJ CR CG EI ER Eq En V) sz) := by
  unfold qX3_left at hq
  refine Met.ofW (cc := cX3_left) (maxL := 2) (ret := (some .int)) (by decide) rfl ?_
  intro p e s m args below meth c s₁ B hml hv
  obtain ⟨rfl, ⟨hsz, hP, hK, hD0⟩, hn⟩ := hv
  have hx := B.exec
  have hb := B.bytes
  have hr := B.returns
  have hts := atoms_spec (ws := wsX3_left) B.pre
  have hown : s.vm.findClass RX3 = some m.cls := findClass_of_methodNamed B.named
  have hlocks := B.notSynchronized
  subst hsz
  have hD := hD0.self (sz := s.heap.size)
  generalize hAe : va_A (wd3 cI cJ cP h ad ad0 ad1 I R CI CJ CR CG EI ER Eq En V) s.heap.size = A at hD ⊢
  have hA : ∀ q : Nat, s.heap.size ≤ q → A q := fun q h => by rw [← hAe]; exact Or.inr h
  have hS : va_S A s.heap s.heap [] := va_S.rf
  have hl := lv_entry ([.ref h, .int p1]) (n := 2) (Nat.le_of_ble_eq_true rfl)
  rw [lg_entry_eq]
  generalize (lg_sl ([.ref h, .int p1]) ++ List.replicate (2 - (lg_sl ([.ref h, .int p1])).length) Slot.unset).toArray = ls at hl ⊢
  have hl : lv_has ls 2 [(0, .ref h), (1, .int p1)] := hl
  refine lv_aload_n hx hb dX3_left_0 rfl (lv_at hl 0 rfl) ?_
  refine va_get (D := (dC, dI)) (ci := 3) (v := .ref (ad 8)) (C := RX3) (T := TX3) (N := 9) hx hb hts nX3_left_X3 hown hK hP 0 rfl rfl 8 (by decide) (hts _ mX3_left_f35) (fun _ h9 => h9) rfl dX3_left_1 ?_
  refine lv_iload_n hx hb dX3_left_4 rfl (lv_at hl 1 rfl) ?_
  obtain ⟨Pc_1, hc, hq⟩ := hq
  refine w_calli (wf := fun _ : Unit => wd3 cI cJ cP h ad ad0 ad1 I R CI CJ CR CG EI ER Eq En V) (va_runV (As := [.int p1]) (rest := []) ⟨hx, hb, hml, hown, hts⟩ (Met_frame_i (w' := fun _ : Unit => wd3 cI cJ cP h ad ad0 ad1 I R CI CJ CR CG EI ER Eq En V) (tys2 := [(cI, .int), (cJ, .long), (cP, .object "YearBook$Picture")]) (tX1_has l dC dI cI (ad 8) ad1 _ Pc_1 p1 EI ER Eq En hc) (p3e cI cJ cP h ad ad0 ad1 I R CI CJ CR CG EI ER Eq En V) (fun _ => (p3e cI cJ cP h ad ad0 ad1 I R CI CJ CR CG EI ER Eq En V).symm) (fun U hU => hU.sub [0] rfl)) (cwV 1 hts gX3_left_X1_has rfl rfl rfl (by decide +kernel) ⟨Nat.le_of_ble_eq_true rfl, Nat.le_of_ble_eq_true rfl⟩) (wPreV hK hP hD (ci := 1) (q0 := 13) rfl rfl) rfl rfl hl.1 rfl (lv_room (Nat.le_of_ble_eq_true rfl)) dX3_left_5 ⟨Nat.le_of_ble_eq_true rfl, Nat.le_of_ble_eq_true rfl⟩) hD hS hA (fun rc_1 u H locs hp hP hD hS => ?_)
  have hq := hq rc_1 hp
  have hP : va_P (dC, dI) vwCl (wd3 cI cJ cP h ad ad0 ad1 I R CI CJ CR CG EI ER Eq En V) H := hP
  have hD : va_D A (wd3 cI cJ cP h ad ad0 ad1 I R CI CJ CR CG EI ER Eq En V) := hD
  refine lv_if_eq (tgt := 33) hx hb dX3_left_8 (by decide) (fun hc => ?_) (fun hc => ?_)
  · have hq := hq.1 hc
    refine lv_iconst (v := (-1 : Int32)) hx hb dX3_left_33 (by decide) ?_
    exact w_iret (post := fun r (_ : Unit) => post r ) (wf := fun _ : Unit => wd3 cI cJ cP h ad ad0 ad1 I R CI CJ CR CG EI ER Eq En V) (u := ()) hx hb hr hK hP hD hS hq dX3_left_34 hlocks
  · have hq := hq.2 hc
    refine lv_bipush (v := (12 : Int32)) hx hb dX3_left_11 (by decide) ?_
    refine lv_aload_n hx hb dX3_left_13 rfl (lv_at hl 0 rfl) ?_
    refine va_get (D := (dC, dI)) (ci := 3) (v := .ref (ad 8)) (C := RX3) (T := TX3) (N := 9) hx hb hts nX3_left_X3 hown hK hP 0 rfl rfl 8 (by decide) (hts _ mX3_left_f35) (fun _ h9 => h9) rfl dX3_left_14 ?_
    refine lv_aload_n hx hb dX3_left_17 rfl (lv_at hl 0 rfl) ?_
    refine va_get (D := (dC, dI)) (ci := 3) (v := .ref (ad 8)) (C := RX3) (T := TX3) (N := 9) hx hb hts nX3_left_X3 hown hK hP 0 rfl rfl 8 (by decide) (hts _ mX3_left_f35) (fun _ h9 => h9) rfl dX3_left_18 ?_
    refine va_getN (D := (dC, dI)) (ci := 1) (v := .ref (ad1 2)) (C := RX1) (T := TX1) (N := 10) (host := "YearBook") hx hb hts nX3_left_X1 hown hK hP 13 rfl rfl 2 (by decide) (va_Nw.use rfl hn.2.1) (fun _ h9 => h9) rfl dX3_left_21 ?_
    refine lv_iload_n hx hb dX3_left_24 rfl (lv_at hl 1 rfl) ?_
    obtain ⟨hi_2, hq⟩ := hq
    refine va_iald (f := ER 2) hx hb hK hP 15 0 rfl rfl hi_2 dX3_left_25 ?_
    refine lv_topi (fun v_3 ev_3 => ?_)
    have hq := hq v_3 ev_3
    obtain ⟨Pc_4, hc, hq⟩ := hq
    refine w_calli (wf := fun _ : Unit => wd3 cI cJ cP h ad ad0 ad1 I R CI CJ CR CG EI ER Eq En V) (va_runV (As := [.int v_3]) (rest := [.int (12 : Int32)]) ⟨hx, hb, hml, hown, hts⟩ (Met_frame_i (w' := fun _ : Unit => wd3 cI cJ cP h ad ad0 ad1 I R CI CJ CR CG EI ER Eq En V) (tys2 := [(cI, .int), (cJ, .long), (cP, .object "YearBook$Picture")]) (tX1_pointsOf l dC dI cI (ad 8) ad1 _ Pc_4 v_3 EI ER Eq En hc) (p3e cI cJ cP h ad ad0 ad1 I R CI CJ CR CG EI ER Eq En V) (fun _ => (p3e cI cJ cP h ad ad0 ad1 I R CI CJ CR CG EI ER Eq En V).symm) (fun U hU => hU.sub [0] rfl)) (cwV 1 hts gX3_left_X1_pointsOf rfl rfl rfl (by decide +kernel) ⟨Nat.le_of_ble_eq_true rfl, Nat.le_of_ble_eq_true rfl⟩) (wPreV hK hP hD (ci := 1) (q0 := 13) rfl rfl) rfl rfl hl.1 rfl (lv_room (Nat.le_of_ble_eq_true rfl)) dX3_left_26 ⟨Nat.le_of_ble_eq_true rfl, Nat.le_of_ble_eq_true rfl⟩) hD hS hA (fun rc_4 u H locs hp hP hD hS => ?_)
    have hq := hq rc_4 hp
    have hP : va_P (dC, dI) vwCl (wd3 cI cJ cP h ad ad0 ad1 I R CI CJ CR CG EI ER Eq En V) H := hP
    have hD : va_D A (wd3 cI cJ cP h ad ad0 ad1 I R CI CJ CR CG EI ER Eq En V) := hD
    refine lv_isub hx hb dX3_left_29 ?_
    refine lv_goto (tgt := 34) hx hb dX3_left_30 (by decide) ?_
    exact w_iret (post := fun r (_ : Unit) => post r ) (wf := fun _ : Unit => wd3 cI cJ cP h ad ad0 ad1 I R CI CJ CR CG EI ER Eq En V) (u := ()) hx hb hr hK hP hD hS hq dX3_left_34 hlocks
def qX3_mend (post : Int32 → (Nat → Int32) → (Nat → Nat → Int32) → (Nat → Int32) → (Nat → Int64) → (Nat → Nat → Int32) → (Nat → Nat → Int64) → (Nat → Int32) → (Nat → Nat → Int32) → Nat → Nat → vS → Prop) (I : Nat → Int32) (R : Nat → Nat → Int32) (CI : Nat → Int32) (CJ : Nat → Int64) (CR : Nat → Nat → Int32) (CG : Nat → Nat → Int64) (EI : Nat → Int32) (ER : Nat → Nat → Int32) (Eq : Nat) (En : Nat) (V : vS) : Prop := ∃ Pc_1 : (Nat → Int32) → (Nat → Nat → Int32) → (Nat → Int32) → (Nat → Int64) → (Nat → Nat → Int32) → (Nat → Nat → Int64) → (Nat → Int32) → (Nat → Nat → Int32) → Nat → Nat → vS → Prop, qX3_offerPictures Pc_1 (4294967296 : Int64) I R CI CJ CR CG EI ER Eq En V ∧ (∀ (Ic_1 : Nat → Int32) (Rc_1 : Nat → Nat → Int32) (CIc_1 : Nat → Int32) (CJc_1 : Nat → Int64) (CRc_1 : Nat → Nat → Int32) (CGc_1 : Nat → Nat → Int64) (EIc_1 : Nat → Int32) (ERc_1 : Nat → Nat → Int32) (Eqc_1 : Nat) (Enc_1 : Nat) (Vc_1 : vS), Pc_1 Ic_1 Rc_1 CIc_1 CJc_1 CRc_1 CGc_1 EIc_1 ERc_1 Eqc_1 Enc_1 Vc_1 → (∃ Pc_2 : Int32 → (Nat → Int32) → (Nat → Int64) → (Nat → Nat → Int32) → (Nat → Nat → Int64) → Prop, qX0_findBest Pc_2  CIc_1 CJc_1 CRc_1 CGc_1 ∧ (∀ (rc_2 : Int32) (CIc_2 : Nat → Int32) (CJc_2 : Nat → Int64) (CRc_2 : Nat → Nat → Int32) (CGc_2 : Nat → Nat → Int64), Pc_2 rc_2 CIc_2 CJc_2 CRc_2 CGc_2 → (((¬ rc_2 = 0) → (∀ x1_3 : Int32, x1_3 = Ic_1 6 → (∃ Pc_4 : (Nat → Int32) → (Nat → Nat → Int32) → (Nat → Int32) → (Nat → Int64) → (Nat → Nat → Int32) → (Nat → Nat → Int64) → (Nat → Int32) → (Nat → Nat → Int32) → Nat → Nat → vS → Prop, qX3_decide Pc_4 (CIc_2 12) Ic_1 Rc_1 CIc_2 CJc_2 CRc_2 CGc_2 EIc_1 ERc_1 Eqc_1 Enc_1 Vc_1 ∧ (∀ (Ic_4 : Nat → Int32) (Rc_4 : Nat → Nat → Int32) (CIc_4 : Nat → Int32) (CJc_4 : Nat → Int64) (CRc_4 : Nat → Nat → Int32) (CGc_4 : Nat → Nat → Int64) (EIc_4 : Nat → Int32) (ERc_4 : Nat → Nat → Int32) (Eqc_4 : Nat) (Enc_4 : Nat) (Vc_4 : vS), Pc_4 Ic_4 Rc_4 CIc_4 CJc_4 CRc_4 CGc_4 EIc_4 ERc_4 Eqc_4 Enc_4 Vc_4 → (∃ Pc_5 : Int32 → Prop, qJ6_bitCount_0f7a4 Pc_5 (x1_3 ^^^ (Ic_4 6)) ∧ (∀ (rc_5 : Int32), Pc_5 rc_5 → (post rc_5 Ic_4 Rc_4 CIc_4 CJc_4 CRc_4 CGc_4 EIc_4 ERc_4 Eqc_4 Enc_4 Vc_4))))))) ∧ ((rc_2 = 0) → (post (-1 : Int32) Ic_1 Rc_1 CIc_2 CJc_2 CRc_2 CGc_2 EIc_1 ERc_1 Eqc_1 Enc_1 Vc_1))))))
theorem mX3_mend_c154 : Cond.constantLong RX3 154 (4294967296) ∈ wsX3_mend := by decide +kernel
theorem mX3_mend_f28 : Cond.fieldLink RX3 28 "YearBook" "chooser" "LYearBook$Chooser;" ∈ wsX3_mend := by decide +kernel
theorem nX3_mend_X3 : ∀ w ∈ u_ws RX3 TX3 9, w ∈ wsX3_mend := by decide +kernel
theorem mX3_mend_f85 : Cond.fieldLink RX3 85 "YearBook" "choice" "I" ∈ wsX3_mend := by decide +kernel
theorem nX3_mend_X0 : ∀ w ∈ u_ws RX0 TX0 14, w ∈ wsX3_mend := by decide +kernel
set_option maxHeartbeats 4000000 in
set_option maxRecDepth 100000 in
theorem tX3_mend (l : Launch) (dC : Nat → ClassId) (dI : Nat → Nat → Nat) (cI : ClassId) (cJ : ClassId) (cP : ClassId) (h : Nat) (ad ad0 ad1 : Nat → Nat)  (sz : Nat) (post : Int32 → (Nat → Int32) → (Nat → Nat → Int32) → (Nat → Int32) → (Nat → Int64) → (Nat → Nat → Int32) → (Nat → Nat → Int64) → (Nat → Int32) → (Nat → Nat → Int32) → Nat → Nat → vS → Prop) (I : Nat → Int32) (R : Nat → Nat → Int32) (CI : Nat → Int32) (CJ : Nat → Int64) (CR : Nat → Nat → Int32) (CG : Nat → Nat → Int64) (EI : Nat → Int32) (ER : Nat → Nat → Int32) (Eq : Nat) (En : Nat) (V : vS) (hq : qX3_mend post I R CI CJ CR CG EI ER Eq En V) : Met l yX3_mend wsX3_mend ({ frames := 24, cells := 0, slots := 0, locals := 682 } : Room) (va_Pc [.ref h] (wPreN (dC, dI) vwCl [(cI, .int), (cJ, .long), (cP, .object "YearBook$Picture")] (wd3 cI cJ cP h ad ad0 ad1 I R CI CJ CR CG EI ER Eq En V) sz)) (va_Qi (fun r (u : (Nat → Int32) × (Nat → Nat → Int32) × (Nat → Int32) × (Nat → Int64) × (Nat → Nat → Int32) × (Nat → Nat → Int64) × (Nat → Int32) × (Nat → Nat → Int32) × (Nat) × (Nat) × (vS)) => post r u.1 u.2.1 u.2.2.1 u.2.2.2.1 u.2.2.2.2.1 u.2.2.2.2.2.1 u.2.2.2.2.2.2.1 u.2.2.2.2.2.2.2.1 u.2.2.2.2.2.2.2.2.1 u.2.2.2.2.2.2.2.2.2.1 u.2.2.2.2.2.2.2.2.2.2) (wAt (dC, dI) vwCl [(cI, .int), (cJ, .long), (cP, .object "YearBook$Picture")] (va_A (wd3 cI cJ cP h ad ad0 ad1 I R CI CJ CR CG EI ER Eq En V) sz) (fun u : (Nat → Int32) × (Nat → Nat → Int32) × (Nat → Int32) × (Nat → Int64) × (Nat → Nat → Int32) × (Nat → Nat → Int64) × (Nat → Int32) × (Nat → Nat → Int32) × (Nat) × (Nat) × (vS) => wd3 cI cJ cP h ad ad0 ad1 u.1 u.2.1 u.2.2.1 u.2.2.2.1 u.2.2.2.2.1 u.2.2.2.2.2.1 u.2.2.2.2.2.2.1 u.2.2.2.2.2.2.2.1 u.2.2.2.2.2.2.2.2.1 u.2.2.2.2.2.2.2.2.2.1 u.2.2.2.2.2.2.2.2.2.2)) (va_A (wd3 cI cJ cP h ad ad0 ad1 I R CI CJ CR CG EI ER Eq En V) sz)) 0 0 (va_A (wd3 cI cJ cP h ad ad0 ad1 I R CI CJ CR CG EI ER Eq En V) sz) := by
  unfold qX3_mend at hq
  refine Met.ofW (cc := cX3_mend) (maxL := 2) (ret := (some .int)) (by decide) rfl ?_
  intro p e s m args below meth c s₁ B hml hv
  obtain ⟨rfl, ⟨hsz, hP, hK, hD0⟩, hn⟩ := hv
  have hx := B.exec
  have hb := B.bytes
  have hr := B.returns
  have hts := atoms_spec (ws := wsX3_mend) B.pre
  have hown : s.vm.findClass RX3 = some m.cls := findClass_of_methodNamed B.named
  have hlocks := B.notSynchronized
  subst hsz
  have hD := hD0.self (sz := s.heap.size)
  generalize hAe : va_A (wd3 cI cJ cP h ad ad0 ad1 I R CI CJ CR CG EI ER Eq En V) s.heap.size = A at hD ⊢
  have hA : ∀ q : Nat, s.heap.size ≤ q → A q := fun q h => by rw [← hAe]; exact Or.inr h
  have hS : va_S A s.heap s.heap [] := va_S.rf
  have hl := lv_entry ([.ref h]) (n := 2) (Nat.le_of_ble_eq_true rfl)
  rw [lg_entry_eq]
  generalize (lg_sl ([.ref h]) ++ List.replicate (2 - (lg_sl ([.ref h])).length) Slot.unset).toArray = ls at hl ⊢
  have hl : lv_has ls 2 [(0, .ref h)] := hl
  refine lv_aload_n hx hb dX3_mend_0 rfl (lv_at hl 0 rfl) ?_
  refine lv_ldc2 (v := (4294967296 : Int64)) hx hb hown (hts _ mX3_mend_c154) dX3_mend_1 ?_
  obtain ⟨Pc_1, hc, hq⟩ := hq
  refine w_callv (wf := fun u : (Nat → Int32) × (Nat → Nat → Int32) × (Nat → Int32) × (Nat → Int64) × (Nat → Nat → Int32) × (Nat → Nat → Int64) × (Nat → Int32) × (Nat → Nat → Int32) × (Nat) × (Nat) × (vS) => wd3 cI cJ cP h ad ad0 ad1 u.1 u.2.1 u.2.2.1 u.2.2.2.1 u.2.2.2.2.1 u.2.2.2.2.2.1 u.2.2.2.2.2.2.1 u.2.2.2.2.2.2.2.1 u.2.2.2.2.2.2.2.2.1 u.2.2.2.2.2.2.2.2.2.1 u.2.2.2.2.2.2.2.2.2.2) (va_runV (As := [.long (4294967296 : Int64)]) (rest := []) ⟨hx, hb, hml, hown, hts⟩ (tX3_offerPictures l dC dI cI cJ cP h ad ad0 ad1 _ Pc_1 (4294967296 : Int64) I R CI CJ CR CG EI ER Eq En V hc) (cwV 1 hts gX3_mend_X3_offerPictures rfl rfl rfl (by decide +kernel) ⟨Nat.le_of_ble_eq_true rfl, Nat.le_of_ble_eq_true rfl⟩) (wPreVN hn hK hP hD (ci := 3) (q0 := 0) rfl rfl) rfl rfl hl.1 rfl (lv_room (Nat.le_of_ble_eq_true rfl)) dX3_mend_4 ⟨Nat.le_of_ble_eq_true rfl, Nat.le_of_ble_eq_true rfl⟩) hD hS hA (fun u H locs hp hP hD hS => ?_)
  obtain ⟨Ic_1, Rc_1, CIc_1, CJc_1, CRc_1, CGc_1, EIc_1, ERc_1, Eqc_1, Enc_1, Vc_1⟩ := u
  have hq := hq Ic_1 Rc_1 CIc_1 CJc_1 CRc_1 CGc_1 EIc_1 ERc_1 Eqc_1 Enc_1 Vc_1 hp
  have hP : va_P (dC, dI) vwCl (wd3 cI cJ cP h ad ad0 ad1 Ic_1 Rc_1 CIc_1 CJc_1 CRc_1 CGc_1 EIc_1 ERc_1 Eqc_1 Enc_1 Vc_1) H := hP
  have hD : va_D A (wd3 cI cJ cP h ad ad0 ad1 Ic_1 Rc_1 CIc_1 CJc_1 CRc_1 CGc_1 EIc_1 ERc_1 Eqc_1 Enc_1 Vc_1) := hD
  refine lv_aload_n hx hb dX3_mend_7 rfl (lv_at hl 0 rfl) ?_
  refine va_get (D := (dC, dI)) (ci := 3) (v := .ref (ad 7)) (C := RX3) (T := TX3) (N := 9) hx hb hts nX3_mend_X3 hown hK hP 0 rfl rfl 7 (by decide) (hts _ mX3_mend_f28) (fun _ h9 => h9) rfl dX3_mend_8 ?_
  obtain ⟨Pc_2, hc, hq⟩ := hq
  refine w_calli (wf := fun u : (Nat → Int32) × (Nat → Int64) × (Nat → Nat → Int32) × (Nat → Nat → Int64) => wd3 cI cJ cP h ad ad0 ad1 Ic_1 Rc_1 u.1 u.2.1 u.2.2.1 u.2.2.2 EIc_1 ERc_1 Eqc_1 Enc_1 Vc_1) (va_runV (As := []) (rest := []) ⟨hx, hb, hml, hown, hts⟩ (Met_frame_i (w' := fun u : (Nat → Int32) × (Nat → Int64) × (Nat → Nat → Int32) × (Nat → Nat → Int64) => wd3 cI cJ cP h ad ad0 ad1 Ic_1 Rc_1 u.1 u.2.1 u.2.2.1 u.2.2.2 EIc_1 ERc_1 Eqc_1 Enc_1 Vc_1) (tys2 := [(cI, .int), (cJ, .long), (cP, .object "YearBook$Picture")]) (tX0_findBest l dC dI cI cJ (ad 7) ad0 _ Pc_2  CIc_1 CJc_1 CRc_1 CGc_1 hc) (p3c cI cJ cP h ad ad0 ad1 Ic_1 Rc_1 CIc_1 CJc_1 CRc_1 CGc_1 EIc_1 ERc_1 Eqc_1 Enc_1 Vc_1) (fun u => (p3c cI cJ cP h ad ad0 ad1 Ic_1 Rc_1 u.1 u.2.1 u.2.2.1 u.2.2.2 EIc_1 ERc_1 Eqc_1 Enc_1 Vc_1).symm) (fun U hU => hU.sub [0, 1] rfl)) (cwV 0 hts gX3_mend_X0_findBest rfl rfl rfl (by decide +kernel) ⟨Nat.le_of_ble_eq_true rfl, Nat.le_of_ble_eq_true rfl⟩) (wPreV hK hP hD (ci := 0) (q0 := 5) rfl rfl) rfl rfl hl.1 rfl (lv_room (Nat.le_of_ble_eq_true rfl)) dX3_mend_11 ⟨Nat.le_of_ble_eq_true rfl, Nat.le_of_ble_eq_true rfl⟩) hD hS hA (fun rc_2 u H locs hp hP hD hS => ?_)
  obtain ⟨CIc_2, CJc_2, CRc_2, CGc_2⟩ := u
  have hq := hq rc_2 CIc_2 CJc_2 CRc_2 CGc_2 hp
  have hP : va_P (dC, dI) vwCl (wd3 cI cJ cP h ad ad0 ad1 Ic_1 Rc_1 CIc_2 CJc_2 CRc_2 CGc_2 EIc_1 ERc_1 Eqc_1 Enc_1 Vc_1) H := hP
  have hD : va_D A (wd3 cI cJ cP h ad ad0 ad1 Ic_1 Rc_1 CIc_2 CJc_2 CRc_2 CGc_2 EIc_1 ERc_1 Eqc_1 Enc_1 Vc_1) := hD
  refine lv_if_ne (tgt := 19) hx hb dX3_mend_14 (by decide) (fun hc => ?_) (fun hc => ?_)
  · have hq := hq.1 hc
    refine lv_aload_n hx hb dX3_mend_19 rfl (lv_at hl 0 rfl) ?_
    refine va_get (D := (dC, dI)) (ci := 3) (v := .int (Ic_1 6)) (C := RX3) (T := TX3) (N := 9) hx hb hts nX3_mend_X3 hown hK hP 0 rfl rfl 6 (by decide) (hts _ mX3_mend_f85) (fun _ h9 => h9) rfl dX3_mend_20 ?_
    refine lv_topi (fun x1_3 ex1_3 => ?_)
    have hq := hq x1_3 ex1_3
    refine lv_istore_n (lv' := [(1, .int x1_3), (0, .ref h)]) hx hb dX3_mend_23 rfl hl (by decide) rfl (fun ls hl => ?_)
    refine lv_aload_n hx hb dX3_mend_24 rfl (lv_at hl 1 rfl) ?_
    refine lv_aload_n hx hb dX3_mend_25 rfl (lv_at hl 1 rfl) ?_
    refine va_get (D := (dC, dI)) (ci := 3) (v := .ref (ad 7)) (C := RX3) (T := TX3) (N := 9) hx hb hts nX3_mend_X3 hown hK hP 0 rfl rfl 7 (by decide) (hts _ mX3_mend_f28) (fun _ h9 => h9) rfl dX3_mend_26 ?_
    refine va_getN (D := (dC, dI)) (ci := 0) (v := .int (CIc_2 12)) (C := RX0) (T := TX0) (N := 14) (host := "YearBook") hx hb hts nX3_mend_X0 hown hK hP 5 rfl rfl 12 (by decide) (va_Nw.use rfl hn.1) (fun _ h9 => h9) rfl dX3_mend_29 ?_
    obtain ⟨Pc_4, hc, hq⟩ := hq
    refine w_callv (wf := fun u : (Nat → Int32) × (Nat → Nat → Int32) × (Nat → Int32) × (Nat → Int64) × (Nat → Nat → Int32) × (Nat → Nat → Int64) × (Nat → Int32) × (Nat → Nat → Int32) × (Nat) × (Nat) × (vS) => wd3 cI cJ cP h ad ad0 ad1 u.1 u.2.1 u.2.2.1 u.2.2.2.1 u.2.2.2.2.1 u.2.2.2.2.2.1 u.2.2.2.2.2.2.1 u.2.2.2.2.2.2.2.1 u.2.2.2.2.2.2.2.2.1 u.2.2.2.2.2.2.2.2.2.1 u.2.2.2.2.2.2.2.2.2.2) (va_runV (As := [.int (CIc_2 12)]) (rest := []) ⟨hx, hb, hml, hown, hts⟩ (tX3_decide l dC dI cI cJ cP h ad ad0 ad1 _ Pc_4 (CIc_2 12) Ic_1 Rc_1 CIc_2 CJc_2 CRc_2 CGc_2 EIc_1 ERc_1 Eqc_1 Enc_1 Vc_1 hc) (cwV 1 hts gX3_mend_X3_decide rfl rfl rfl (by decide +kernel) ⟨Nat.le_of_ble_eq_true rfl, Nat.le_of_ble_eq_true rfl⟩) (wPreVN hn hK hP hD (ci := 3) (q0 := 0) rfl rfl) rfl rfl hl.1 rfl (lv_room (Nat.le_of_ble_eq_true rfl)) dX3_mend_32 ⟨Nat.le_of_ble_eq_true rfl, Nat.le_of_ble_eq_true rfl⟩) hD hS hA (fun u H locs hp hP hD hS => ?_)
    obtain ⟨Ic_4, Rc_4, CIc_4, CJc_4, CRc_4, CGc_4, EIc_4, ERc_4, Eqc_4, Enc_4, Vc_4⟩ := u
    have hq := hq Ic_4 Rc_4 CIc_4 CJc_4 CRc_4 CGc_4 EIc_4 ERc_4 Eqc_4 Enc_4 Vc_4 hp
    have hP : va_P (dC, dI) vwCl (wd3 cI cJ cP h ad ad0 ad1 Ic_4 Rc_4 CIc_4 CJc_4 CRc_4 CGc_4 EIc_4 ERc_4 Eqc_4 Enc_4 Vc_4) H := hP
    have hD : va_D A (wd3 cI cJ cP h ad ad0 ad1 Ic_4 Rc_4 CIc_4 CJc_4 CRc_4 CGc_4 EIc_4 ERc_4 Eqc_4 Enc_4 Vc_4) := hD
    refine lv_iload_n hx hb dX3_mend_35 rfl (lv_at hl 0 rfl) ?_
    refine lv_aload_n hx hb dX3_mend_36 rfl (lv_at hl 1 rfl) ?_
    refine va_get (D := (dC, dI)) (ci := 3) (v := .int (Ic_4 6)) (C := RX3) (T := TX3) (N := 9) hx hb hts nX3_mend_X3 hown hK hP 0 rfl rfl 6 (by decide) (hts _ mX3_mend_f85) (fun _ h9 => h9) rfl dX3_mend_37 ?_
    refine lv_ixor hx hb dX3_mend_40 ?_
    obtain ⟨Pc_5, hc, hq⟩ := hq
    refine vp_callSi (W.runS (As := [.int (x1_3 ^^^ (Ic_4 6))]) (rest := []) ⟨hx, hb, hml, hown, hts⟩ (tJ6_bitCount_0f7a4 l Pc_5 (x1_3 ^^^ (Ic_4 6)) hc) (va_cwS 1 hts gX3_mend_J6_bitCount_0f7a4 rfl rfl rfl (by decide +kernel) ⟨Nat.le_of_ble_eq_true rfl, Nat.le_of_ble_eq_true rfl⟩) preEq rfl rfl hl.1 rfl (lv_room (Nat.le_of_ble_eq_true rfl)) dX3_mend_41 ⟨Nat.le_of_ble_eq_true rfl, Nat.le_of_ble_eq_true rfl⟩) (fun rc_5 hp => ?_)
    have hq := hq rc_5 hp
    exact w_iret (post := fun r (u : (Nat → Int32) × (Nat → Nat → Int32) × (Nat → Int32) × (Nat → Int64) × (Nat → Nat → Int32) × (Nat → Nat → Int64) × (Nat → Int32) × (Nat → Nat → Int32) × (Nat) × (Nat) × (vS)) => post r u.1 u.2.1 u.2.2.1 u.2.2.2.1 u.2.2.2.2.1 u.2.2.2.2.2.1 u.2.2.2.2.2.2.1 u.2.2.2.2.2.2.2.1 u.2.2.2.2.2.2.2.2.1 u.2.2.2.2.2.2.2.2.2.1 u.2.2.2.2.2.2.2.2.2.2) (wf := fun u : (Nat → Int32) × (Nat → Nat → Int32) × (Nat → Int32) × (Nat → Int64) × (Nat → Nat → Int32) × (Nat → Nat → Int64) × (Nat → Int32) × (Nat → Nat → Int32) × (Nat) × (Nat) × (vS) => wd3 cI cJ cP h ad ad0 ad1 u.1 u.2.1 u.2.2.1 u.2.2.2.1 u.2.2.2.2.1 u.2.2.2.2.2.1 u.2.2.2.2.2.2.1 u.2.2.2.2.2.2.2.1 u.2.2.2.2.2.2.2.2.1 u.2.2.2.2.2.2.2.2.2.1 u.2.2.2.2.2.2.2.2.2.2) (u := (Ic_4, Rc_4, CIc_4, CJc_4, CRc_4, CGc_4, EIc_4, ERc_4, Eqc_4, Enc_4, Vc_4)) hx hb hr hK hP hD hS hq dX3_mend_44 hlocks
  · have hq := hq.2 hc
    refine lv_iconst (v := (-1 : Int32)) hx hb dX3_mend_17 (by decide) ?_
    exact w_iret (post := fun r (u : (Nat → Int32) × (Nat → Nat → Int32) × (Nat → Int32) × (Nat → Int64) × (Nat → Nat → Int32) × (Nat → Nat → Int64) × (Nat → Int32) × (Nat → Nat → Int32) × (Nat) × (Nat) × (vS)) => post r u.1 u.2.1 u.2.2.1 u.2.2.2.1 u.2.2.2.2.1 u.2.2.2.2.2.1 u.2.2.2.2.2.2.1 u.2.2.2.2.2.2.2.1 u.2.2.2.2.2.2.2.2.1 u.2.2.2.2.2.2.2.2.2.1 u.2.2.2.2.2.2.2.2.2.2) (wf := fun u : (Nat → Int32) × (Nat → Nat → Int32) × (Nat → Int32) × (Nat → Int64) × (Nat → Nat → Int32) × (Nat → Nat → Int64) × (Nat → Int32) × (Nat → Nat → Int32) × (Nat) × (Nat) × (vS) => wd3 cI cJ cP h ad ad0 ad1 u.1 u.2.1 u.2.2.1 u.2.2.2.1 u.2.2.2.2.1 u.2.2.2.2.2.1 u.2.2.2.2.2.2.1 u.2.2.2.2.2.2.2.1 u.2.2.2.2.2.2.2.2.1 u.2.2.2.2.2.2.2.2.2.1 u.2.2.2.2.2.2.2.2.2.2) (u := (Ic_1, Rc_1, CIc_2, CJc_2, CRc_2, CGc_2, EIc_1, ERc_1, Eqc_1, Enc_1, Vc_1)) hx hb hr hK hP hD hS hq dX3_mend_18 hlocks
def qX3_name (post : Int32 → Prop) (p1 : Int32) (p2 : Int32) (I : Nat → Int32) (R : Nat → Nat → Int32) (CI : Nat → Int32) (CJ : Nat → Int64) (CR : Nat → Nat → Int32) (CG : Nat → Nat → Int64) (EI : Nat → Int32) (ER : Nat → Nat → Int32) (Eq : Nat) (En : Nat) (V : vS) : Prop := (I 4) = nI (pvN V) ∧ pvN V ≤ 14 ∧ ((p1 < 0 ∨ (I 4) ≤ p1) → (post (-1 : Int32))) ∧ (∀ k_1 : Nat, k_1 < pvN V → p1 = nI k_1 → ((((pvI V k_1 9) = 0) → (post (-1 : Int32))) ∧ ((¬ (pvI V k_1 9) = 0) → (((0 ≤ p2) → (∃ Pc_2 : Int32 → Prop, qX2_nameAt Pc_2 p2 (R 5 0) (pvI V k_1) (pvR V k_1) ∧ (∀ (rc_2 : Int32), Pc_2 rc_2 → (post rc_2)))) ∧ ((¬ 0 ≤ p2) → (post (-1 : Int32)))))))
theorem nX3_name_X2 : ∀ w ∈ u_ws RX2 TX2 11, w ∈ wsX3_name := by decide +kernel
theorem mX3_name_f22 : Cond.fieldLink RX3 22 "YearBook" "settings" "[I" ∈ wsX3_name := by decide +kernel
theorem nX3_name_X3 : ∀ w ∈ u_ws RX3 TX3 9, w ∈ wsX3_name := by decide +kernel
set_option maxHeartbeats 4000000 in
set_option maxRecDepth 100000 in
theorem tX3_name (l : Launch) (dC : Nat → ClassId) (dI : Nat → Nat → Nat) (cI : ClassId) (cJ : ClassId) (cP : ClassId) (h : Nat) (ad ad0 ad1 : Nat → Nat)  (sz : Nat) (post : Int32 → Prop) (p1 : Int32) (p2 : Int32) (I : Nat → Int32) (R : Nat → Nat → Int32) (CI : Nat → Int32) (CJ : Nat → Int64) (CR : Nat → Nat → Int32) (CG : Nat → Nat → Int64) (EI : Nat → Int32) (ER : Nat → Nat → Int32) (Eq : Nat) (En : Nat) (V : vS) (hq : qX3_name post p1 p2 I R CI CJ CR CG EI ER Eq En V) : Met l yX3_name wsX3_name ({ frames := 3, cells := 0, slots := 0, locals := 82 } : Room) (va_Pc [.ref h, .int p1, .int p2] (wPreN (dC, dI) vwCl [(cI, .int), (cJ, .long), (cP, .object "YearBook$Picture")] (wd3 cI cJ cP h ad ad0 ad1 I R CI CJ CR CG EI ER Eq En V) sz)) (va_Qi (fun r (_ : Unit) => post r ) (wAt (dC, dI) vwCl [(cI, .int), (cJ, .long), (cP, .object "YearBook$Picture")] (va_A (wd3 cI cJ cP h ad ad0 ad1 I R CI CJ CR CG EI ER Eq En V) sz) (fun _ : Unit => wd3 cI cJ cP h ad ad0 ad1 I R CI CJ CR CG EI ER Eq En V)) (va_A (wd3 cI cJ cP h ad ad0 ad1 I R CI CJ CR CG EI ER Eq En V) sz)) 0 0 (va_A (wd3 cI cJ cP h ad ad0 ad1 I R CI CJ CR CG EI ER Eq En V) sz) := by
  unfold qX3_name at hq
  refine Met.ofW (cc := cX3_name) (maxL := 4) (ret := (some .int)) (by decide) rfl ?_
  intro p e s m args below meth c s₁ B hml hv
  obtain ⟨rfl, ⟨hsz, hP, hK, hD0⟩, hn⟩ := hv
  have hx := B.exec
  have hb := B.bytes
  have hr := B.returns
  have hts := atoms_spec (ws := wsX3_name) B.pre
  have hown : s.vm.findClass RX3 = some m.cls := findClass_of_methodNamed B.named
  have hlocks := B.notSynchronized
  subst hsz
  have hD := hD0.self (sz := s.heap.size)
  generalize hAe : va_A (wd3 cI cJ cP h ad ad0 ad1 I R CI CJ CR CG EI ER Eq En V) s.heap.size = A at hD ⊢
  have hA : ∀ q : Nat, s.heap.size ≤ q → A q := fun q h => by rw [← hAe]; exact Or.inr h
  have hS : va_S A s.heap s.heap [] := va_S.rf
  have hl := lv_entry ([.ref h, .int p1, .int p2]) (n := 4) (Nat.le_of_ble_eq_true rfl)
  rw [lg_entry_eq]
  generalize (lg_sl ([.ref h, .int p1, .int p2]) ++ List.replicate (4 - (lg_sl ([.ref h, .int p1, .int p2])).length) Slot.unset).toArray = ls at hl ⊢
  have hl : lv_has ls 4 [(0, .ref h), (1, .int p1), (2, .int p2)] := hl
  refine lv_aload_n hx hb dX3_name_0 rfl (lv_at hl 0 rfl) ?_
  refine lv_iload_n hx hb dX3_name_1 rfl (lv_at hl 1 rfl) ?_
  obtain ⟨hI9, hN9, hq1, hq2⟩ := hq
  refine w_callq (wf := fun _ : Unit => wd3 cI cJ cP h ad ad0 ad1 I R CI CJ CR CG EI ER Eq En V) (va_runV (As := [.int p1]) (rest := []) ⟨hx, hb, hml, hown, hts⟩ (tX3_pictureAt l dC dI cI cJ cP h ad ad0 ad1 _ p1 I R CI CJ CR CG EI ER Eq En V hI9 hN9) (cwV 1 hts gX3_name_X3_pictureAt rfl rfl rfl (by decide +kernel) ⟨Nat.le_of_ble_eq_true rfl, Nat.le_of_ble_eq_true rfl⟩) (wPreVN hn hK hP hD (ci := 3) (q0 := 0) rfl rfl) rfl rfl hl.1 rfl (lv_room (Nat.le_of_ble_eq_true rfl)) dX3_name_2 ⟨Nat.le_of_ble_eq_true rfl, Nat.le_of_ble_eq_true rfl⟩) hD hS hA (fun r9 u9 H locs hp9 hP hD hS => ?_)
  have hP : va_P (dC, dI) vwCl (wd3 cI cJ cP h ad ad0 ad1 I R CI CJ CR CG EI ER Eq En V) H := hP
  have hD : va_D A (wd3 cI cJ cP h ad ad0 ad1 I R CI CJ CR CG EI ER Eq En V) := hD
  rcases hp9 with ⟨hc9, rfl⟩ | ⟨k_1, hk_1, ek_1, rfl⟩
  · have hq := hq1 hc9
    refine lv_astore_nN (lv' := [(3, .null), (0, .ref h), (1, .int p1), (2, .int p2)]) hx hb dX3_name_5 rfl hl (by decide) rfl (fun ls hl => ?_)
    refine lv_aload_nN hx hb dX3_name_6 rfl (lv_at hl 0 rfl) ?_
    refine lv_ifnullN (tgt := 21) hx hb dX3_name_7 (by decide) ?_
    refine lv_iconst (v := (-1 : Int32)) hx hb dX3_name_21 (by decide) ?_
    refine lv_goto (tgt := 36) hx hb dX3_name_22 (by decide) ?_
    exact w_iret (post := fun r (_ : Unit) => post r ) (wf := fun _ : Unit => wd3 cI cJ cP h ad ad0 ad1 I R CI CJ CR CG EI ER Eq En V) (u := ()) hx hb hr hK hP hD hS hq dX3_name_36 hlocks
  · have hq := hq2 k_1 hk_1 ek_1
    refine lv_astore_n (lv' := [(3, .ref (pvH V k_1)), (0, .ref h), (1, .int p1), (2, .int p2)]) hx hb dX3_name_5 rfl hl (by decide) rfl (fun ls hl => ?_)
    refine lv_aload_n hx hb dX3_name_6 rfl (lv_at hl 0 rfl) ?_
    refine lv_ifnull hx hb dX3_name_7 ?_
    refine lv_aload_n hx hb dX3_name_10 rfl (lv_at hl 0 rfl) ?_
    obtain ⟨q0, hq0⟩ := pic_in cI cJ cP h ad ad0 ad1 I R CI CJ CR CG EI ER Eq En V hk_1
    refine va_getN (D := (dC, dI)) (ci := 2) (v := .int (pvI V k_1 9)) (C := RX2) (T := TX2) (N := 11) (host := "YearBook") hx hb hts nX3_name_X2 hown hK hP q0 hq0 rfl 9 (by decide) (va_Nw.use rfl hn.2.2.2.2.2.2.2.1) (fun _ h9 => h9) rfl dX3_name_11 ?_
    refine lv_if_eq (tgt := 21) hx hb dX3_name_14 (by decide) (fun hc => ?_) (fun hc => ?_)
    · have hq := hq.1 hc
      refine lv_iconst (v := (-1 : Int32)) hx hb dX3_name_21 (by decide) ?_
      refine lv_goto (tgt := 36) hx hb dX3_name_22 (by decide) ?_
      exact w_iret (post := fun r (_ : Unit) => post r ) (wf := fun _ : Unit => wd3 cI cJ cP h ad ad0 ad1 I R CI CJ CR CG EI ER Eq En V) (u := ()) hx hb hr hK hP hD hS hq dX3_name_36 hlocks
    · have hq := hq.2 hc
      refine lv_iload_n hx hb dX3_name_17 rfl (lv_at hl 3 rfl) ?_
      refine lv_if_ge (tgt := 25) hx hb dX3_name_18 (by decide) (fun hc => ?_) (fun hc => ?_)
      · have hq := hq.1 hc
        refine lv_aload_n hx hb dX3_name_25 rfl (lv_at hl 0 rfl) ?_
        refine lv_iload_n hx hb dX3_name_26 rfl (lv_at hl 3 rfl) ?_
        refine lv_aload_n hx hb dX3_name_27 rfl (lv_at hl 1 rfl) ?_
        refine va_get (D := (dC, dI)) (ci := 3) (v := .ref (ad 5)) (C := RX3) (T := TX3) (N := 9) hx hb hts nX3_name_X3 hown hK hP 0 rfl rfl 5 (by decide) (hts _ mX3_name_f22) (fun _ h9 => h9) rfl dX3_name_28 ?_
        refine lv_iconst (v := (0 : Int32)) hx hb dX3_name_31 (by decide) ?_
        refine va_ialdk (f := R 5) hx hb hK hP 4 0 rfl rfl 0 (by decide) (by unfold vp_in; decide) dX3_name_32 ?_
        obtain ⟨Pc_2, hc, hq⟩ := hq
        obtain ⟨q0, hq0⟩ := pic_in cI cJ cP h ad ad0 ad1 I R CI CJ CR CG EI ER Eq En V hk_1
        refine w_calli (wf := fun _ : Unit => wd3 cI cJ cP h ad ad0 ad1 I R CI CJ CR CG EI ER Eq En V) (va_runV (As := [.int p2, .int (R 5 0)]) (rest := []) ⟨hx, hb, hml, hown, hts⟩ (Met_frame_i (w' := fun _ : Unit => wd3 cI cJ cP h ad ad0 ad1 I R CI CJ CR CG EI ER Eq En V) (tys2 := [(cI, .int), (cJ, .long), (cP, .object "YearBook$Picture")]) (tX2_nameAt l dC dI cI (pvH V k_1) (pvA V k_1) _ Pc_2 p2 (R 5 0) (pvI V k_1) (pvR V k_1) hc) (p3v cI cJ cP h ad ad0 ad1 I R CI CJ CR CG EI ER Eq En V hk_1) (fun _ => (p3v cI cJ cP h ad ad0 ad1 I R CI CJ CR CG EI ER Eq En V hk_1).symm) (fun U hU => hU.sub [0] rfl)) (cwV 2 hts gX3_name_X2_nameAt rfl rfl rfl (by decide +kernel) ⟨Nat.le_of_ble_eq_true rfl, Nat.le_of_ble_eq_true rfl⟩) (wPreV hK hP hD (ci := 2) (q0 := q0) rfl hq0) rfl rfl hl.1 rfl (lv_room (Nat.le_of_ble_eq_true rfl)) dX3_name_33 ⟨Nat.le_of_ble_eq_true rfl, Nat.le_of_ble_eq_true rfl⟩) hD hS hA (fun rc_2 u H locs hp hP hD hS => ?_)
        have hq := hq rc_2 hp
        have hP : va_P (dC, dI) vwCl (wd3 cI cJ cP h ad ad0 ad1 I R CI CJ CR CG EI ER Eq En V) H := hP
        have hD : va_D A (wd3 cI cJ cP h ad ad0 ad1 I R CI CJ CR CG EI ER Eq En V) := hD
        exact w_iret (post := fun r (_ : Unit) => post r ) (wf := fun _ : Unit => wd3 cI cJ cP h ad ad0 ad1 I R CI CJ CR CG EI ER Eq En V) (u := ()) hx hb hr hK hP hD hS hq dX3_name_36 hlocks
      · have hq := hq.2 hc
        refine lv_iconst (v := (-1 : Int32)) hx hb dX3_name_21 (by decide) ?_
        refine lv_goto (tgt := 36) hx hb dX3_name_22 (by decide) ?_
        exact w_iret (post := fun r (_ : Unit) => post r ) (wf := fun _ : Unit => wd3 cI cJ cP h ad ad0 ad1 I R CI CJ CR CG EI ER Eq En V) (u := ()) hx hb hr hK hP hD hS hq dX3_name_36 hlocks
def qX3_page (post : Int32 → Prop) (p1 : Int32) (I : Nat → Int32) (R : Nat → Nat → Int32) (CI : Nat → Int32) (CJ : Nat → Int64) (CR : Nat → Nat → Int32) (CG : Nat → Nat → Int64) (EI : Nat → Int32) (ER : Nat → Nat → Int32) (Eq : Nat) (En : Nat) (V : vS) : Prop := ∃ Pc_1 : Int32 → Prop, qX1_has Pc_1 p1 EI ER Eq En ∧ (∀ (rc_1 : Int32), Pc_1 rc_1 → (((rc_1 = 0) → (post (-1 : Int32))) ∧ ((¬ rc_1 = 0) → (vp_in p1 14 ∧ (∀ v_3 : Int32, v_3 = (ER 2) p1.toNatClampNeg → (post v_3))))))
theorem mX3_page_f35 : Cond.fieldLink RX3 35 "YearBook" "pages" "LYearBook$Pages;" ∈ wsX3_page := by decide +kernel
theorem nX3_page_X3 : ∀ w ∈ u_ws RX3 TX3 9, w ∈ wsX3_page := by decide +kernel
theorem nX3_page_X1 : ∀ w ∈ u_ws RX1 TX1 10, w ∈ wsX3_page := by decide +kernel
set_option maxHeartbeats 4000000 in
set_option maxRecDepth 100000 in
theorem tX3_page (l : Launch) (dC : Nat → ClassId) (dI : Nat → Nat → Nat) (cI : ClassId) (cJ : ClassId) (cP : ClassId) (h : Nat) (ad ad0 ad1 : Nat → Nat)  (sz : Nat) (post : Int32 → Prop) (p1 : Int32) (I : Nat → Int32) (R : Nat → Nat → Int32) (CI : Nat → Int32) (CJ : Nat → Int64) (CR : Nat → Nat → Int32) (CG : Nat → Nat → Int64) (EI : Nat → Int32) (ER : Nat → Nat → Int32) (Eq : Nat) (En : Nat) (V : vS) (hq : qX3_page post p1 I R CI CJ CR CG EI ER Eq En V) : Met l yX3_page wsX3_page ({ frames := 1, cells := 0, slots := 0, locals := 21 } : Room) (va_Pc [.ref h, .int p1] (wPreN (dC, dI) vwCl [(cI, .int), (cJ, .long), (cP, .object "YearBook$Picture")] (wd3 cI cJ cP h ad ad0 ad1 I R CI CJ CR CG EI ER Eq En V) sz)) (va_Qi (fun r (_ : Unit) => post r ) (wAt (dC, dI) vwCl [(cI, .int), (cJ, .long), (cP, .object "YearBook$Picture")] (va_A (wd3 cI cJ cP h ad ad0 ad1 I R CI CJ CR CG EI ER Eq En V) sz) (fun _ : Unit => wd3 cI cJ cP h ad ad0 ad1 I R CI CJ CR CG EI ER Eq En V)) (va_A (wd3 cI cJ cP h ad ad0 ad1 I R CI CJ CR CG EI ER Eq En V) sz)) 0 0 (va_A (wd3 cI cJ cP h ad ad0 ad1 I R CI CJ CR CG EI ER Eq En V) sz) := by
  unfold qX3_page at hq
  refine Met.ofW (cc := cX3_page) (maxL := 2) (ret := (some .int)) (by decide) rfl ?_
  intro p e s m args below meth c s₁ B hml hv
  obtain ⟨rfl, ⟨hsz, hP, hK, hD0⟩, hn⟩ := hv
  have hx := B.exec
  have hb := B.bytes
  have hr := B.returns
  have hts := atoms_spec (ws := wsX3_page) B.pre
  have hown : s.vm.findClass RX3 = some m.cls := findClass_of_methodNamed B.named
  have hlocks := B.notSynchronized
  subst hsz
  have hD := hD0.self (sz := s.heap.size)
  generalize hAe : va_A (wd3 cI cJ cP h ad ad0 ad1 I R CI CJ CR CG EI ER Eq En V) s.heap.size = A at hD ⊢
  have hA : ∀ q : Nat, s.heap.size ≤ q → A q := fun q h => by rw [← hAe]; exact Or.inr h
  have hS : va_S A s.heap s.heap [] := va_S.rf
  have hl := lv_entry ([.ref h, .int p1]) (n := 2) (Nat.le_of_ble_eq_true rfl)
  rw [lg_entry_eq]
  generalize (lg_sl ([.ref h, .int p1]) ++ List.replicate (2 - (lg_sl ([.ref h, .int p1])).length) Slot.unset).toArray = ls at hl ⊢
  have hl : lv_has ls 2 [(0, .ref h), (1, .int p1)] := hl
  refine lv_aload_n hx hb dX3_page_0 rfl (lv_at hl 0 rfl) ?_
  refine va_get (D := (dC, dI)) (ci := 3) (v := .ref (ad 8)) (C := RX3) (T := TX3) (N := 9) hx hb hts nX3_page_X3 hown hK hP 0 rfl rfl 8 (by decide) (hts _ mX3_page_f35) (fun _ h9 => h9) rfl dX3_page_1 ?_
  refine lv_iload_n hx hb dX3_page_4 rfl (lv_at hl 1 rfl) ?_
  obtain ⟨Pc_1, hc, hq⟩ := hq
  refine w_calli (wf := fun _ : Unit => wd3 cI cJ cP h ad ad0 ad1 I R CI CJ CR CG EI ER Eq En V) (va_runV (As := [.int p1]) (rest := []) ⟨hx, hb, hml, hown, hts⟩ (Met_frame_i (w' := fun _ : Unit => wd3 cI cJ cP h ad ad0 ad1 I R CI CJ CR CG EI ER Eq En V) (tys2 := [(cI, .int), (cJ, .long), (cP, .object "YearBook$Picture")]) (tX1_has l dC dI cI (ad 8) ad1 _ Pc_1 p1 EI ER Eq En hc) (p3e cI cJ cP h ad ad0 ad1 I R CI CJ CR CG EI ER Eq En V) (fun _ => (p3e cI cJ cP h ad ad0 ad1 I R CI CJ CR CG EI ER Eq En V).symm) (fun U hU => hU.sub [0] rfl)) (cwV 1 hts gX3_page_X1_has rfl rfl rfl (by decide +kernel) ⟨Nat.le_of_ble_eq_true rfl, Nat.le_of_ble_eq_true rfl⟩) (wPreV hK hP hD (ci := 1) (q0 := 13) rfl rfl) rfl rfl hl.1 rfl (lv_room (Nat.le_of_ble_eq_true rfl)) dX3_page_5 ⟨Nat.le_of_ble_eq_true rfl, Nat.le_of_ble_eq_true rfl⟩) hD hS hA (fun rc_1 u H locs hp hP hD hS => ?_)
  have hq := hq rc_1 hp
  have hP : va_P (dC, dI) vwCl (wd3 cI cJ cP h ad ad0 ad1 I R CI CJ CR CG EI ER Eq En V) H := hP
  have hD : va_D A (wd3 cI cJ cP h ad ad0 ad1 I R CI CJ CR CG EI ER Eq En V) := hD
  refine lv_if_eq (tgt := 23) hx hb dX3_page_8 (by decide) (fun hc => ?_) (fun hc => ?_)
  · have hq := hq.1 hc
    refine lv_iconst (v := (-1 : Int32)) hx hb dX3_page_23 (by decide) ?_
    exact w_iret (post := fun r (_ : Unit) => post r ) (wf := fun _ : Unit => wd3 cI cJ cP h ad ad0 ad1 I R CI CJ CR CG EI ER Eq En V) (u := ()) hx hb hr hK hP hD hS hq dX3_page_24 hlocks
  · have hq := hq.2 hc
    refine lv_aload_n hx hb dX3_page_11 rfl (lv_at hl 0 rfl) ?_
    refine va_get (D := (dC, dI)) (ci := 3) (v := .ref (ad 8)) (C := RX3) (T := TX3) (N := 9) hx hb hts nX3_page_X3 hown hK hP 0 rfl rfl 8 (by decide) (hts _ mX3_page_f35) (fun _ h9 => h9) rfl dX3_page_12 ?_
    refine va_getN (D := (dC, dI)) (ci := 1) (v := .ref (ad1 2)) (C := RX1) (T := TX1) (N := 10) (host := "YearBook") hx hb hts nX3_page_X1 hown hK hP 13 rfl rfl 2 (by decide) (va_Nw.use rfl hn.2.1) (fun _ h9 => h9) rfl dX3_page_15 ?_
    refine lv_iload_n hx hb dX3_page_18 rfl (lv_at hl 1 rfl) ?_
    obtain ⟨hi_2, hq⟩ := hq
    refine va_iald (f := ER 2) hx hb hK hP 15 0 rfl rfl hi_2 dX3_page_19 ?_
    refine lv_topi (fun v_3 ev_3 => ?_)
    have hq := hq v_3 ev_3
    refine lv_goto (tgt := 24) hx hb dX3_page_20 (by decide) ?_
    exact w_iret (post := fun r (_ : Unit) => post r ) (wf := fun _ : Unit => wd3 cI cJ cP h ad ad0 ad1 I R CI CJ CR CG EI ER Eq En V) (u := ()) hx hb hr hK hP hD hS hq dX3_page_24 hlocks
