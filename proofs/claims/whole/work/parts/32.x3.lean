def qX3_shownIn (post : Int32 → Prop) (p1 : Int32) (I : Nat → Int32) (R : Nat → Nat → Int32) (CI : Nat → Int32) (CJ : Nat → Int64) (CR : Nat → Nat → Int32) (CG : Nat → Nat → Int64) (EI : Nat → Int32) (ER : Nat → Nat → Int32) (Eq : Nat) (En : Nat) (V : vS) : Prop := (I 4) = nI (pvN V) ∧ pvN V ≤ 14 ∧ ((p1 < 0 ∨ (I 4) ≤ p1) → (post (0 : Int32))) ∧ (∀ k_1 : Nat, k_1 < pvN V → p1 = nI k_1 → (post (pvI V k_1 9)))
theorem nX3_shownIn_X2 : ∀ w ∈ u_ws RX2 TX2 11, w ∈ wsX3_shownIn := by decide +kernel
set_option maxHeartbeats 4000000 in
set_option maxRecDepth 100000 in
theorem tX3_shownIn (l : Launch) (dC : Nat → ClassId) (dI : Nat → Nat → Nat) (cI : ClassId) (cJ : ClassId) (cP : ClassId) (h : Nat) (ad ad0 ad1 : Nat → Nat)  (sz : Nat) (post : Int32 → Prop) (p1 : Int32) (I : Nat → Int32) (R : Nat → Nat → Int32) (CI : Nat → Int32) (CJ : Nat → Int64) (CR : Nat → Nat → Int32) (CG : Nat → Nat → Int64) (EI : Nat → Int32) (ER : Nat → Nat → Int32) (Eq : Nat) (En : Nat) (V : vS) (hq : qX3_shownIn post p1 I R CI CJ CR CG EI ER Eq En V) : Met l yX3_shownIn wsX3_shownIn ({ frames := 1, cells := 0, slots := 0, locals := 21 } : Room) (va_Pc [.ref h, .int p1] (wPreN (dC, dI) vwCl [(cI, .int), (cJ, .long), (cP, .object "YearBook$Picture")] (wd3 cI cJ cP h ad ad0 ad1 I R CI CJ CR CG EI ER Eq En V) sz)) (va_Qi (fun r (_ : Unit) => post r ) (wAt (dC, dI) vwCl [(cI, .int), (cJ, .long), (cP, .object "YearBook$Picture")] (va_A (wd3 cI cJ cP h ad ad0 ad1 I R CI CJ CR CG EI ER Eq En V) sz) (fun _ : Unit => wd3 cI cJ cP h ad ad0 ad1 I R CI CJ CR CG EI ER Eq En V)) (va_A (wd3 cI cJ cP h ad ad0 ad1 I R CI CJ CR CG EI ER Eq En V) sz)) 0 0 (va_A (wd3 cI cJ cP h ad ad0 ad1 I R CI CJ CR CG EI ER Eq En V) sz) := by
  unfold qX3_shownIn at hq
  refine Met.ofW (cc := cX3_shownIn) (maxL := 3) (ret := (some .int)) (by decide) rfl ?_
  intro p e s m args below meth c s₁ B hml hv
  obtain ⟨rfl, ⟨hsz, hP, hK, hD0⟩, hn⟩ := hv
  have hx := B.exec
  have hb := B.bytes
  have hr := B.returns
  have hts := atoms_spec (ws := wsX3_shownIn) B.pre
  have hown : s.vm.findClass RX3 = some m.cls := findClass_of_methodNamed B.named
  have hlocks := B.notSynchronized
  subst hsz
  have hD := hD0.self (sz := s.heap.size)
  generalize hAe : va_A (wd3 cI cJ cP h ad ad0 ad1 I R CI CJ CR CG EI ER Eq En V) s.heap.size = A at hD ⊢
  have hA : ∀ q : Nat, s.heap.size ≤ q → A q := fun q h => by rw [← hAe]; exact Or.inr h
  have hS : va_S A s.heap s.heap [] := va_S.rf
  have hl := lv_entry ([.ref h, .int p1]) (n := 3) (Nat.le_of_ble_eq_true rfl)
  rw [lg_entry_eq]
  generalize (lg_sl ([.ref h, .int p1]) ++ List.replicate (3 - (lg_sl ([.ref h, .int p1])).length) Slot.unset).toArray = ls at hl ⊢
  have hl : lv_has ls 3 [(0, .ref h), (1, .int p1)] := hl
  refine lv_aload_n hx hb dX3_shownIn_0 rfl (lv_at hl 0 rfl) ?_
  refine lv_iload_n hx hb dX3_shownIn_1 rfl (lv_at hl 1 rfl) ?_
  obtain ⟨hI9, hN9, hq1, hq2⟩ := hq
  refine w_callq (wf := fun _ : Unit => wd3 cI cJ cP h ad ad0 ad1 I R CI CJ CR CG EI ER Eq En V) (va_runV (As := [.int p1]) (rest := []) ⟨hx, hb, hml, hown, hts⟩ (tX3_pictureAt l dC dI cI cJ cP h ad ad0 ad1 _ p1 I R CI CJ CR CG EI ER Eq En V hI9 hN9) (cwV 1 hts gX3_shownIn_X3_pictureAt rfl rfl rfl (by decide +kernel) ⟨Nat.le_of_ble_eq_true rfl, Nat.le_of_ble_eq_true rfl⟩) (wPreVN hn hK hP hD (ci := 3) (q0 := 0) rfl rfl) rfl rfl hl.1 rfl (lv_room (Nat.le_of_ble_eq_true rfl)) dX3_shownIn_2 ⟨Nat.le_of_ble_eq_true rfl, Nat.le_of_ble_eq_true rfl⟩) hD hS hA (fun r9 u9 H locs hp9 hP hD hS => ?_)
  have hP : va_P (dC, dI) vwCl (wd3 cI cJ cP h ad ad0 ad1 I R CI CJ CR CG EI ER Eq En V) H := hP
  have hD : va_D A (wd3 cI cJ cP h ad ad0 ad1 I R CI CJ CR CG EI ER Eq En V) := hD
  rcases hp9 with ⟨hc9, rfl⟩ | ⟨k_1, hk_1, ek_1, rfl⟩
  · have hq := hq1 hc9
    refine lv_astore_nN (lv' := [(2, .null), (0, .ref h), (1, .int p1)]) hx hb dX3_shownIn_5 rfl hl (by decide) rfl (fun ls hl => ?_)
    refine lv_aload_nN hx hb dX3_shownIn_6 rfl (lv_at hl 0 rfl) ?_
    refine lv_ifnonnullN hx hb dX3_shownIn_7 ?_
    refine lv_iconst (v := (0 : Int32)) hx hb dX3_shownIn_10 (by decide) ?_
    refine lv_goto (tgt := 18) hx hb dX3_shownIn_11 (by decide) ?_
    exact w_iret (post := fun r (_ : Unit) => post r ) (wf := fun _ : Unit => wd3 cI cJ cP h ad ad0 ad1 I R CI CJ CR CG EI ER Eq En V) (u := ()) hx hb hr hK hP hD hS hq dX3_shownIn_18 hlocks
  · have hq := hq2 k_1 hk_1 ek_1
    refine lv_astore_n (lv' := [(2, .ref (pvH V k_1)), (0, .ref h), (1, .int p1)]) hx hb dX3_shownIn_5 rfl hl (by decide) rfl (fun ls hl => ?_)
    refine lv_aload_n hx hb dX3_shownIn_6 rfl (lv_at hl 0 rfl) ?_
    refine lv_ifnonnull (tgt := 14) hx hb dX3_shownIn_7 (by decide) ?_
    refine lv_aload_n hx hb dX3_shownIn_14 rfl (lv_at hl 0 rfl) ?_
    obtain ⟨q0, hq0⟩ := pic_in cI cJ cP h ad ad0 ad1 I R CI CJ CR CG EI ER Eq En V hk_1
    refine va_getN (D := (dC, dI)) (ci := 2) (v := .int (pvI V k_1 9)) (C := RX2) (T := TX2) (N := 11) (host := "YearBook") hx hb hts nX3_shownIn_X2 hown hK hP q0 hq0 rfl 9 (by decide) (va_Nw.use rfl hn.2.2.2.2.2.2.2.1) (fun _ h9 => h9) rfl dX3_shownIn_15 ?_
    exact w_iret (post := fun r (_ : Unit) => post r ) (wf := fun _ : Unit => wd3 cI cJ cP h ad ad0 ad1 I R CI CJ CR CG EI ER Eq En V) (u := ()) hx hb hr hK hP hD hS hq dX3_shownIn_18 hlocks
def qX3_worthOf (post : Int32 → Prop) (p1 : Int32) (I : Nat → Int32) (R : Nat → Nat → Int32) (CI : Nat → Int32) (CJ : Nat → Int64) (CR : Nat → Nat → Int32) (CG : Nat → Nat → Int64) (EI : Nat → Int32) (ER : Nat → Nat → Int32) (Eq : Nat) (En : Nat) (V : vS) : Prop := (I 4) = nI (pvN V) ∧ pvN V ≤ 14 ∧ ((p1 < 0 ∨ (I 4) ≤ p1) → (post (0 : Int32))) ∧ (∀ k_1 : Nat, k_1 < pvN V → p1 = nI k_1 → (post (pvI V k_1 1)))
theorem nX3_worthOf_X2 : ∀ w ∈ u_ws RX2 TX2 11, w ∈ wsX3_worthOf := by decide +kernel
set_option maxHeartbeats 4000000 in
set_option maxRecDepth 100000 in
theorem tX3_worthOf (l : Launch) (dC : Nat → ClassId) (dI : Nat → Nat → Nat) (cI : ClassId) (cJ : ClassId) (cP : ClassId) (h : Nat) (ad ad0 ad1 : Nat → Nat)  (sz : Nat) (post : Int32 → Prop) (p1 : Int32) (I : Nat → Int32) (R : Nat → Nat → Int32) (CI : Nat → Int32) (CJ : Nat → Int64) (CR : Nat → Nat → Int32) (CG : Nat → Nat → Int64) (EI : Nat → Int32) (ER : Nat → Nat → Int32) (Eq : Nat) (En : Nat) (V : vS) (hq : qX3_worthOf post p1 I R CI CJ CR CG EI ER Eq En V) : Met l yX3_worthOf wsX3_worthOf ({ frames := 1, cells := 0, slots := 0, locals := 21 } : Room) (va_Pc [.ref h, .int p1] (wPreN (dC, dI) vwCl [(cI, .int), (cJ, .long), (cP, .object "YearBook$Picture")] (wd3 cI cJ cP h ad ad0 ad1 I R CI CJ CR CG EI ER Eq En V) sz)) (va_Qi (fun r (_ : Unit) => post r ) (wAt (dC, dI) vwCl [(cI, .int), (cJ, .long), (cP, .object "YearBook$Picture")] (va_A (wd3 cI cJ cP h ad ad0 ad1 I R CI CJ CR CG EI ER Eq En V) sz) (fun _ : Unit => wd3 cI cJ cP h ad ad0 ad1 I R CI CJ CR CG EI ER Eq En V)) (va_A (wd3 cI cJ cP h ad ad0 ad1 I R CI CJ CR CG EI ER Eq En V) sz)) 0 0 (va_A (wd3 cI cJ cP h ad ad0 ad1 I R CI CJ CR CG EI ER Eq En V) sz) := by
  unfold qX3_worthOf at hq
  refine Met.ofW (cc := cX3_worthOf) (maxL := 3) (ret := (some .int)) (by decide) rfl ?_
  intro p e s m args below meth c s₁ B hml hv
  obtain ⟨rfl, ⟨hsz, hP, hK, hD0⟩, hn⟩ := hv
  have hx := B.exec
  have hb := B.bytes
  have hr := B.returns
  have hts := atoms_spec (ws := wsX3_worthOf) B.pre
  have hown : s.vm.findClass RX3 = some m.cls := findClass_of_methodNamed B.named
  have hlocks := B.notSynchronized
  subst hsz
  have hD := hD0.self (sz := s.heap.size)
  generalize hAe : va_A (wd3 cI cJ cP h ad ad0 ad1 I R CI CJ CR CG EI ER Eq En V) s.heap.size = A at hD ⊢
  have hA : ∀ q : Nat, s.heap.size ≤ q → A q := fun q h => by rw [← hAe]; exact Or.inr h
  have hS : va_S A s.heap s.heap [] := va_S.rf
  have hl := lv_entry ([.ref h, .int p1]) (n := 3) (Nat.le_of_ble_eq_true rfl)
  rw [lg_entry_eq]
  generalize (lg_sl ([.ref h, .int p1]) ++ List.replicate (3 - (lg_sl ([.ref h, .int p1])).length) Slot.unset).toArray = ls at hl ⊢
  have hl : lv_has ls 3 [(0, .ref h), (1, .int p1)] := hl
  refine lv_aload_n hx hb dX3_worthOf_0 rfl (lv_at hl 0 rfl) ?_
  refine lv_iload_n hx hb dX3_worthOf_1 rfl (lv_at hl 1 rfl) ?_
  obtain ⟨hI9, hN9, hq1, hq2⟩ := hq
  refine w_callq (wf := fun _ : Unit => wd3 cI cJ cP h ad ad0 ad1 I R CI CJ CR CG EI ER Eq En V) (va_runV (As := [.int p1]) (rest := []) ⟨hx, hb, hml, hown, hts⟩ (tX3_pictureAt l dC dI cI cJ cP h ad ad0 ad1 _ p1 I R CI CJ CR CG EI ER Eq En V hI9 hN9) (cwV 1 hts gX3_worthOf_X3_pictureAt rfl rfl rfl (by decide +kernel) ⟨Nat.le_of_ble_eq_true rfl, Nat.le_of_ble_eq_true rfl⟩) (wPreVN hn hK hP hD (ci := 3) (q0 := 0) rfl rfl) rfl rfl hl.1 rfl (lv_room (Nat.le_of_ble_eq_true rfl)) dX3_worthOf_2 ⟨Nat.le_of_ble_eq_true rfl, Nat.le_of_ble_eq_true rfl⟩) hD hS hA (fun r9 u9 H locs hp9 hP hD hS => ?_)
  have hP : va_P (dC, dI) vwCl (wd3 cI cJ cP h ad ad0 ad1 I R CI CJ CR CG EI ER Eq En V) H := hP
  have hD : va_D A (wd3 cI cJ cP h ad ad0 ad1 I R CI CJ CR CG EI ER Eq En V) := hD
  rcases hp9 with ⟨hc9, rfl⟩ | ⟨k_1, hk_1, ek_1, rfl⟩
  · have hq := hq1 hc9
    refine lv_astore_nN (lv' := [(2, .null), (0, .ref h), (1, .int p1)]) hx hb dX3_worthOf_5 rfl hl (by decide) rfl (fun ls hl => ?_)
    refine lv_aload_nN hx hb dX3_worthOf_6 rfl (lv_at hl 0 rfl) ?_
    refine lv_ifnonnullN hx hb dX3_worthOf_7 ?_
    refine lv_iconst (v := (0 : Int32)) hx hb dX3_worthOf_10 (by decide) ?_
    refine lv_goto (tgt := 18) hx hb dX3_worthOf_11 (by decide) ?_
    exact w_iret (post := fun r (_ : Unit) => post r ) (wf := fun _ : Unit => wd3 cI cJ cP h ad ad0 ad1 I R CI CJ CR CG EI ER Eq En V) (u := ()) hx hb hr hK hP hD hS hq dX3_worthOf_18 hlocks
  · have hq := hq2 k_1 hk_1 ek_1
    refine lv_astore_n (lv' := [(2, .ref (pvH V k_1)), (0, .ref h), (1, .int p1)]) hx hb dX3_worthOf_5 rfl hl (by decide) rfl (fun ls hl => ?_)
    refine lv_aload_n hx hb dX3_worthOf_6 rfl (lv_at hl 0 rfl) ?_
    refine lv_ifnonnull (tgt := 14) hx hb dX3_worthOf_7 (by decide) ?_
    refine lv_aload_n hx hb dX3_worthOf_14 rfl (lv_at hl 0 rfl) ?_
    obtain ⟨q0, hq0⟩ := pic_in cI cJ cP h ad ad0 ad1 I R CI CJ CR CG EI ER Eq En V hk_1
    refine va_getN (D := (dC, dI)) (ci := 2) (v := .int (pvI V k_1 1)) (C := RX2) (T := TX2) (N := 11) (host := "YearBook") hx hb hts nX3_worthOf_X2 hown hK hP q0 hq0 rfl 1 (by decide) (va_Nw.use rfl hn.2.2.2.2.1) (fun _ h9 => h9) rfl dX3_worthOf_15 ?_
    exact w_iret (post := fun r (_ : Unit) => post r ) (wf := fun _ : Unit => wd3 cI cJ cP h ad ad0 ad1 I R CI CJ CR CG EI ER Eq En V) (u := ()) hx hb hr hK hP hD hS hq dX3_worthOf_18 hlocks
def qX3_isChosen (post : Int32 → Prop) (p1 : Int32) (I : Nat → Int32) (R : Nat → Nat → Int32) (CI : Nat → Int32) (CJ : Nat → Int64) (CR : Nat → Nat → Int32) (CG : Nat → Nat → Int64) (EI : Nat → Int32) (ER : Nat → Nat → Int32) (Eq : Nat) (En : Nat) (V : vS) : Prop := (((((I 6) >>> (p1 &&& 31)) &&& (1 : Int32)) = 0) → (post (0 : Int32))) ∧ ((¬ (((I 6) >>> (p1 &&& 31)) &&& (1 : Int32)) = 0) → (post (1 : Int32)))
theorem mX3_isChosen_f85 : Cond.fieldLink RX3 85 "YearBook" "choice" "I" ∈ wsX3_isChosen := by decide +kernel
theorem nX3_isChosen_X3 : ∀ w ∈ u_ws RX3 TX3 9, w ∈ wsX3_isChosen := by decide +kernel
set_option maxHeartbeats 4000000 in
set_option maxRecDepth 100000 in
theorem tX3_isChosen (l : Launch) (dC : Nat → ClassId) (dI : Nat → Nat → Nat) (cI : ClassId) (cJ : ClassId) (cP : ClassId) (h : Nat) (ad ad0 ad1 : Nat → Nat)  (sz : Nat) (post : Int32 → Prop) (p1 : Int32) (I : Nat → Int32) (R : Nat → Nat → Int32) (CI : Nat → Int32) (CJ : Nat → Int64) (CR : Nat → Nat → Int32) (CG : Nat → Nat → Int64) (EI : Nat → Int32) (ER : Nat → Nat → Int32) (Eq : Nat) (En : Nat) (V : vS) (hq : qX3_isChosen post p1 I R CI CJ CR CG EI ER Eq En V) : Met l yX3_isChosen wsX3_isChosen ({ frames := 0, cells := 0, slots := 0, locals := 0 } : Room) (va_Pc [.ref h, .int p1] (wPreN (dC, dI) vwCl [(cI, .int), (cJ, .long), (cP, .object "YearBook$Picture")] (wd3 cI cJ cP h ad ad0 ad1 I R CI CJ CR CG EI ER Eq En V) sz)) (va_Qi (fun r (_ : Unit) => post r ) (wAt (dC, dI) vwCl [(cI, .int), (cJ, .long), (cP, .object "YearBook$Picture")] (va_A (wd3 cI cJ cP h ad ad0 ad1 I R CI CJ CR CG EI ER Eq En V) sz) (fun _ : Unit => wd3 cI cJ cP h ad ad0 ad1 I R CI CJ CR CG EI ER Eq En V)) (va_A (wd3 cI cJ cP h ad ad0 ad1 I R CI CJ CR CG EI ER Eq En V) sz)) 0 0 (va_A (wd3 cI cJ cP h ad ad0 ad1 I R CI CJ CR CG EI ER Eq En V) sz) := by
  unfold qX3_isChosen at hq
  refine Met.ofW (cc := cX3_isChosen) (maxL := 2) (ret := (some .boolean)) (by decide) rfl ?_
  intro p e s m args below meth c s₁ B hml hv
  obtain ⟨rfl, ⟨hsz, hP, hK, hD0⟩, hn⟩ := hv
  have hx := B.exec
  have hb := B.bytes
  have hr := B.returns
  have hts := atoms_spec (ws := wsX3_isChosen) B.pre
  have hown : s.vm.findClass RX3 = some m.cls := findClass_of_methodNamed B.named
  have hlocks := B.notSynchronized
  subst hsz
  have hD := hD0.self (sz := s.heap.size)
  generalize hAe : va_A (wd3 cI cJ cP h ad ad0 ad1 I R CI CJ CR CG EI ER Eq En V) s.heap.size = A at hD ⊢
  have hA : ∀ q : Nat, s.heap.size ≤ q → A q := fun q h => by rw [← hAe]; exact Or.inr h
  have hS : va_S A s.heap s.heap [] := va_S.rf
  have hl := lv_entry ([.ref h, .int p1]) (n := 2) (Nat.le_of_ble_eq_true rfl)
  rw [lg_entry_eq]
  generalize (lg_sl ([.ref h, .int p1]) ++ List.replicate (2 - (lg_sl ([.ref h, .int p1])).length) Slot.unset).toArray = ls at hl ⊢
  have hl : lv_has ls 2 [(0, .ref h), (1, .int p1)] := hl
  refine lv_aload_n hx hb dX3_isChosen_0 rfl (lv_at hl 0 rfl) ?_
  refine va_get (D := (dC, dI)) (ci := 3) (v := .int (I 6)) (C := RX3) (T := TX3) (N := 9) hx hb hts nX3_isChosen_X3 hown hK hP 0 rfl rfl 6 (by decide) (hts _ mX3_isChosen_f85) (fun _ h9 => h9) rfl dX3_isChosen_1 ?_
  refine lv_iload_n hx hb dX3_isChosen_4 rfl (lv_at hl 1 rfl) ?_
  refine lv_ishr hx hb dX3_isChosen_5 ?_
  refine lv_iconst (v := (1 : Int32)) hx hb dX3_isChosen_6 (by decide) ?_
  refine lv_iand hx hb dX3_isChosen_7 ?_
  refine lv_if_eq (tgt := 15) hx hb dX3_isChosen_8 (by decide) (fun hc => ?_) (fun hc => ?_)
  · have hq := hq.1 hc
    refine lv_iconst (v := (0 : Int32)) hx hb dX3_isChosen_15 (by decide) ?_
    exact w_zret (post := fun r (_ : Unit) => post r ) (wf := fun _ : Unit => wd3 cI cJ cP h ad ad0 ad1 I R CI CJ CR CG EI ER Eq En V) (u := ()) hx hb hr rfl hK hP hD hS hq dX3_isChosen_16 hlocks
  · have hq := hq.2 hc
    refine lv_iconst (v := (1 : Int32)) hx hb dX3_isChosen_11 (by decide) ?_
    refine lv_goto (tgt := 16) hx hb dX3_isChosen_12 (by decide) ?_
    exact w_zret (post := fun r (_ : Unit) => post r ) (wf := fun _ : Unit => wd3 cI cJ cP h ad ad0 ad1 I R CI CJ CR CG EI ER Eq En V) (u := ()) hx hb hr rfl hK hP hD hS hq dX3_isChosen_16 hlocks
def zX3_offerPictures (post : (Nat → Int32) → (Nat → Nat → Int32) → (Nat → Int32) → (Nat → Int64) → (Nat → Nat → Int32) → (Nat → Nat → Int64) → (Nat → Int32) → (Nat → Nat → Int32) → Nat → Nat → vS → Prop) (p1 : Int64) (X21 : Int32 → (Nat → Int32) → (Nat → Nat → Int32) → (Nat → Int32) → (Nat → Int64) → (Nat → Nat → Int32) → (Nat → Nat → Int64) → (Nat → Int32) → (Nat → Nat → Int32) → Nat → Nat → vS → Prop) (X86 : Int32 → Int64 → Int64 → Int32 → Int32 → (Nat → Int32) → (Nat → Nat → Int32) → (Nat → Int32) → (Nat → Int64) → (Nat → Nat → Int32) → (Nat → Nat → Int64) → (Nat → Int32) → (Nat → Nat → Int32) → Nat → Nat → vS → Prop) : Prop :=
  (∀ (x3 : Int32) (I : Nat → Int32) (R : Nat → Nat → Int32) (CI : Nat → Int32) (CJ : Nat → Int64) (CR : Nat → Nat → Int32) (CG : Nat → Nat → Int64) (EI : Nat → Int32) (ER : Nat → Nat → Int32) (Eq : Nat) (En : Nat) (V : vS), ((((I 4) ≤ x3) → (∃ Pc_2 : (Nat → Int32) → (Nat → Int64) → (Nat → Nat → Int32) → (Nat → Nat → Int64) → Prop, qX0_sumUp Pc_2  CI CJ CR CG ∧ (∀ (CIc_2 : Nat → Int32) (CJc_2 : Nat → Int64) (CRc_2 : Nat → Nat → Int32) (CGc_2 : Nat → Nat → Int64), Pc_2 CIc_2 CJc_2 CRc_2 CGc_2 → (post I R CIc_2 CJc_2 CRc_2 CGc_2 EI ER Eq En V)))) ∧ ((¬ (I 4) ≤ x3) → (∃ Pc_3 : Int32 → Prop, qX3_shownIn Pc_3 x3 I R CI CJ CR CG EI ER Eq En V ∧ (∀ (rc_3 : Int32), Pc_3 rc_3 → (((rc_3 = 0) → (X21 (x3 + (1 : Int32)) I R CI CJ CR CG EI ER Eq En V)) ∧ ((¬ rc_3 = 0) → (∃ Pc_4 : Int32 → Prop, qX3_worthOf Pc_4 x3 I R CI CJ CR CG EI ER Eq En V ∧ (∀ (rc_4 : Int32), Pc_4 rc_4 → (∀ x5_5 : Int64, x5_5 = ((rc_4.toInt64 * (262144 : Int64)) - (16384 : Int64)) - ((1 : Int64) <<< (x3.toInt64 &&& 63)) → (∃ Pc_6 : Int32 → Prop, qX3_isChosen Pc_6 x3 I R CI CJ CR CG EI ER Eq En V ∧ (∀ (rc_6 : Int32), Pc_6 rc_6 → (((rc_6 = 0) → (X86 x3 (-p1) x5_5 rc_3 ((1 : Int32) <<< (x3 &&& 31)) I R CI CJ CR CG EI ER Eq En V)) ∧ ((¬ rc_6 = 0) → (X86 x3 p1 x5_5 rc_3 ((1 : Int32) <<< (x3 &&& 31)) I R CI CJ CR CG EI ER Eq En V)))))))))))))) → X21 x3 I R CI CJ CR CG EI ER Eq En V) ∧
  (∀ (x3 : Int32) (k0 : Int64) (k1 : Int64) (k2 : Int32) (k3 : Int32) (I : Nat → Int32) (R : Nat → Nat → Int32) (CI : Nat → Int32) (CJ : Nat → Int64) (CR : Nat → Nat → Int32) (CG : Nat → Nat → Int64) (EI : Nat → Int32) (ER : Nat → Nat → Int32) (Eq : Nat) (En : Nat) (V : vS), (∃ Pc_7 : (Nat → Int32) → (Nat → Int64) → (Nat → Nat → Int32) → (Nat → Nat → Int64) → Prop, qX0_offer Pc_7 k3 k2 (k1 + k0) CI CJ CR CG ∧ (∀ (CIc_7 : Nat → Int32) (CJc_7 : Nat → Int64) (CRc_7 : Nat → Nat → Int32) (CGc_7 : Nat → Nat → Int64), Pc_7 CIc_7 CJc_7 CRc_7 CGc_7 → (X21 (x3 + (1 : Int32)) I R CIc_7 CJc_7 CRc_7 CGc_7 EI ER Eq En V))) → X86 x3 k0 k1 k2 k3 I R CI CJ CR CG EI ER Eq En V)
def qX3_offerPictures_21 (post : (Nat → Int32) → (Nat → Nat → Int32) → (Nat → Int32) → (Nat → Int64) → (Nat → Nat → Int32) → (Nat → Nat → Int64) → (Nat → Int32) → (Nat → Nat → Int32) → Nat → Nat → vS → Prop) (p1 : Int64) (x3 : Int32) (I : Nat → Int32) (R : Nat → Nat → Int32) (CI : Nat → Int32) (CJ : Nat → Int64) (CR : Nat → Nat → Int32) (CG : Nat → Nat → Int64) (EI : Nat → Int32) (ER : Nat → Nat → Int32) (Eq : Nat) (En : Nat) (V : vS) : Prop := ∀ (X21 : Int32 → (Nat → Int32) → (Nat → Nat → Int32) → (Nat → Int32) → (Nat → Int64) → (Nat → Nat → Int32) → (Nat → Nat → Int64) → (Nat → Int32) → (Nat → Nat → Int32) → Nat → Nat → vS → Prop) (X86 : Int32 → Int64 → Int64 → Int32 → Int32 → (Nat → Int32) → (Nat → Nat → Int32) → (Nat → Int32) → (Nat → Int64) → (Nat → Nat → Int32) → (Nat → Nat → Int64) → (Nat → Int32) → (Nat → Nat → Int32) → Nat → Nat → vS → Prop), zX3_offerPictures post p1 X21 X86 → X21 x3 I R CI CJ CR CG EI ER Eq En V
def qX3_offerPictures_86 (post : (Nat → Int32) → (Nat → Nat → Int32) → (Nat → Int32) → (Nat → Int64) → (Nat → Nat → Int32) → (Nat → Nat → Int64) → (Nat → Int32) → (Nat → Nat → Int32) → Nat → Nat → vS → Prop) (p1 : Int64) (x3 : Int32) (k0 : Int64) (k1 : Int64) (k2 : Int32) (k3 : Int32) (I : Nat → Int32) (R : Nat → Nat → Int32) (CI : Nat → Int32) (CJ : Nat → Int64) (CR : Nat → Nat → Int32) (CG : Nat → Nat → Int64) (EI : Nat → Int32) (ER : Nat → Nat → Int32) (Eq : Nat) (En : Nat) (V : vS) : Prop := ∀ (X21 : Int32 → (Nat → Int32) → (Nat → Nat → Int32) → (Nat → Int32) → (Nat → Int64) → (Nat → Nat → Int32) → (Nat → Nat → Int64) → (Nat → Int32) → (Nat → Nat → Int32) → Nat → Nat → vS → Prop) (X86 : Int32 → Int64 → Int64 → Int32 → Int32 → (Nat → Int32) → (Nat → Nat → Int32) → (Nat → Int32) → (Nat → Int64) → (Nat → Nat → Int32) → (Nat → Nat → Int64) → (Nat → Int32) → (Nat → Nat → Int32) → Nat → Nat → vS → Prop), zX3_offerPictures post p1 X21 X86 → X86 x3 k0 k1 k2 k3 I R CI CJ CR CG EI ER Eq En V
theorem kX3_offerPictures_21 {post : (Nat → Int32) → (Nat → Nat → Int32) → (Nat → Int32) → (Nat → Int64) → (Nat → Nat → Int32) → (Nat → Nat → Int64) → (Nat → Int32) → (Nat → Nat → Int32) → Nat → Nat → vS → Prop} {p1 : Int64} {x3 : Int32} {I : Nat → Int32} {R : Nat → Nat → Int32} {CI : Nat → Int32} {CJ : Nat → Int64} {CR : Nat → Nat → Int32} {CG : Nat → Nat → Int64} {EI : Nat → Int32} {ER : Nat → Nat → Int32} {Eq : Nat} {En : Nat} {V : vS} (h : (((I 4) ≤ x3) → (∃ Pc_2 : (Nat → Int32) → (Nat → Int64) → (Nat → Nat → Int32) → (Nat → Nat → Int64) → Prop, qX0_sumUp Pc_2  CI CJ CR CG ∧ (∀ (CIc_2 : Nat → Int32) (CJc_2 : Nat → Int64) (CRc_2 : Nat → Nat → Int32) (CGc_2 : Nat → Nat → Int64), Pc_2 CIc_2 CJc_2 CRc_2 CGc_2 → (post I R CIc_2 CJc_2 CRc_2 CGc_2 EI ER Eq En V)))) ∧ ((¬ (I 4) ≤ x3) → (∃ Pc_3 : Int32 → Prop, qX3_shownIn Pc_3 x3 I R CI CJ CR CG EI ER Eq En V ∧ (∀ (rc_3 : Int32), Pc_3 rc_3 → (((rc_3 = 0) → (qX3_offerPictures_21 post p1 (x3 + (1 : Int32)) I R CI CJ CR CG EI ER Eq En V)) ∧ ((¬ rc_3 = 0) → (∃ Pc_4 : Int32 → Prop, qX3_worthOf Pc_4 x3 I R CI CJ CR CG EI ER Eq En V ∧ (∀ (rc_4 : Int32), Pc_4 rc_4 → (∀ x5_5 : Int64, x5_5 = ((rc_4.toInt64 * (262144 : Int64)) - (16384 : Int64)) - ((1 : Int64) <<< (x3.toInt64 &&& 63)) → (∃ Pc_6 : Int32 → Prop, qX3_isChosen Pc_6 x3 I R CI CJ CR CG EI ER Eq En V ∧ (∀ (rc_6 : Int32), Pc_6 rc_6 → (((rc_6 = 0) → (qX3_offerPictures_86 post p1 x3 (-p1) x5_5 rc_3 ((1 : Int32) <<< (x3 &&& 31)) I R CI CJ CR CG EI ER Eq En V)) ∧ ((¬ rc_6 = 0) → (qX3_offerPictures_86 post p1 x3 p1 x5_5 rc_3 ((1 : Int32) <<< (x3 &&& 31)) I R CI CJ CR CG EI ER Eq En V)))))))))))))) : qX3_offerPictures_21 post p1 x3 I R CI CJ CR CG EI ER Eq En V := by
  intro Z21 Z86 hcl
  refine hcl.1 x3 I R CI CJ CR CG EI ER Eq En V ?_
  refine ⟨fun c => ?_, fun c => ?_⟩
  · have h := h.1 c
    obtain ⟨P, h1, h2⟩ := h
    refine ⟨P, h1, fun b0 b1 b2 b3 hp => ?_⟩
    have h := h2 b0 b1 b2 b3 hp
    exact h
  · have h := h.2 c
    obtain ⟨P, h1, h2⟩ := h
    refine ⟨P, h1, fun b0 hp => ?_⟩
    have h := h2 b0 hp
    refine ⟨fun c => ?_, fun c => ?_⟩
    · have h := h.1 c
      exact h _ _ hcl
    · have h := h.2 c
      obtain ⟨P, h1, h2⟩ := h
      refine ⟨P, h1, fun b0 hp => ?_⟩
      have h := h2 b0 hp
      intro x e
      have h := h x e
      obtain ⟨P, h1, h2⟩ := h
      refine ⟨P, h1, fun b0 hp => ?_⟩
      have h := h2 b0 hp
      refine ⟨fun c => ?_, fun c => ?_⟩
      · have h := h.1 c
        exact h _ _ hcl
      · have h := h.2 c
        exact h _ _ hcl
theorem kX3_offerPictures_86 {post : (Nat → Int32) → (Nat → Nat → Int32) → (Nat → Int32) → (Nat → Int64) → (Nat → Nat → Int32) → (Nat → Nat → Int64) → (Nat → Int32) → (Nat → Nat → Int32) → Nat → Nat → vS → Prop} {p1 : Int64} {x3 : Int32} {k0 : Int64} {k1 : Int64} {k2 : Int32} {k3 : Int32} {I : Nat → Int32} {R : Nat → Nat → Int32} {CI : Nat → Int32} {CJ : Nat → Int64} {CR : Nat → Nat → Int32} {CG : Nat → Nat → Int64} {EI : Nat → Int32} {ER : Nat → Nat → Int32} {Eq : Nat} {En : Nat} {V : vS} (h : ∃ Pc_7 : (Nat → Int32) → (Nat → Int64) → (Nat → Nat → Int32) → (Nat → Nat → Int64) → Prop, qX0_offer Pc_7 k3 k2 (k1 + k0) CI CJ CR CG ∧ (∀ (CIc_7 : Nat → Int32) (CJc_7 : Nat → Int64) (CRc_7 : Nat → Nat → Int32) (CGc_7 : Nat → Nat → Int64), Pc_7 CIc_7 CJc_7 CRc_7 CGc_7 → (qX3_offerPictures_21 post p1 (x3 + (1 : Int32)) I R CIc_7 CJc_7 CRc_7 CGc_7 EI ER Eq En V))) : qX3_offerPictures_86 post p1 x3 k0 k1 k2 k3 I R CI CJ CR CG EI ER Eq En V := by
  intro Z21 Z86 hcl
  refine hcl.2 x3 k0 k1 k2 k3 I R CI CJ CR CG EI ER Eq En V ?_
  obtain ⟨P, h1, h2⟩ := h
  refine ⟨P, h1, fun b0 b1 b2 b3 hp => ?_⟩
  have h := h2 b0 b1 b2 b3 hp
  exact h _ _ hcl
def qX3_offerPictures (post : (Nat → Int32) → (Nat → Nat → Int32) → (Nat → Int32) → (Nat → Int64) → (Nat → Nat → Int32) → (Nat → Nat → Int64) → (Nat → Int32) → (Nat → Nat → Int32) → Nat → Nat → vS → Prop) (p1 : Int64) (I : Nat → Int32) (R : Nat → Nat → Int32) (CI : Nat → Int32) (CJ : Nat → Int64) (CR : Nat → Nat → Int32) (CG : Nat → Nat → Int64) (EI : Nat → Int32) (ER : Nat → Nat → Int32) (Eq : Nat) (En : Nat) (V : vS) : Prop := ∃ Pc_1 : (Nat → Int32) → (Nat → Int64) → (Nat → Nat → Int32) → (Nat → Nat → Int64) → Prop, qX0_begin Pc_1 (R 5 1) (R 5 2) CI CJ CR CG ∧ (∀ (CIc_1 : Nat → Int32) (CJc_1 : Nat → Int64) (CRc_1 : Nat → Nat → Int32) (CGc_1 : Nat → Nat → Int64), Pc_1 CIc_1 CJc_1 CRc_1 CGc_1 → (qX3_offerPictures_21 post p1 (0 : Int32) I R CIc_1 CJc_1 CRc_1 CGc_1 EI ER Eq En V))
theorem mX3_offerPictures_f28 : Cond.fieldLink RX3 28 "YearBook" "chooser" "LYearBook$Chooser;" ∈ wsX3_offerPictures := by decide +kernel
theorem nX3_offerPictures_X3 : ∀ w ∈ u_ws RX3 TX3 9, w ∈ wsX3_offerPictures := by decide +kernel
theorem mX3_offerPictures_f22 : Cond.fieldLink RX3 22 "YearBook" "settings" "[I" ∈ wsX3_offerPictures := by decide +kernel
theorem mX3_offerPictures_f51 : Cond.fieldLink RX3 51 "YearBook" "pictureCount" "I" ∈ wsX3_offerPictures := by decide +kernel
theorem mX3_offerPictures_c195 : Cond.constantLong RX3 195 (262144) ∈ wsX3_offerPictures := by decide +kernel
theorem mX3_offerPictures_c197 : Cond.constantLong RX3 197 (16384) ∈ wsX3_offerPictures := by decide +kernel
set_option maxHeartbeats 4000000 in
set_option maxRecDepth 100000 in
theorem tX3_offerPictures (l : Launch) (dC : Nat → ClassId) (dI : Nat → Nat → Nat) (cI : ClassId) (cJ : ClassId) (cP : ClassId) (h : Nat) (ad ad0 ad1 : Nat → Nat)  (sz : Nat) (post : (Nat → Int32) → (Nat → Nat → Int32) → (Nat → Int32) → (Nat → Int64) → (Nat → Nat → Int32) → (Nat → Nat → Int64) → (Nat → Int32) → (Nat → Nat → Int32) → Nat → Nat → vS → Prop) (p1 : Int64) (I : Nat → Int32) (R : Nat → Nat → Int32) (CI : Nat → Int32) (CJ : Nat → Int64) (CR : Nat → Nat → Int32) (CG : Nat → Nat → Int64) (EI : Nat → Int32) (ER : Nat → Nat → Int32) (Eq : Nat) (En : Nat) (V : vS) (hq : qX3_offerPictures post p1 I R CI CJ CR CG EI ER Eq En V) : Met l yX3_offerPictures wsX3_offerPictures ({ frames := 2, cells := 0, slots := 0, locals := 47 } : Room) (va_Pc [.ref h, .long p1] (wPreN (dC, dI) vwCl [(cI, .int), (cJ, .long), (cP, .object "YearBook$Picture")] (wd3 cI cJ cP h ad ad0 ad1 I R CI CJ CR CG EI ER Eq En V) sz)) (va_Qv (fun (u : (Nat → Int32) × (Nat → Nat → Int32) × (Nat → Int32) × (Nat → Int64) × (Nat → Nat → Int32) × (Nat → Nat → Int64) × (Nat → Int32) × (Nat → Nat → Int32) × (Nat) × (Nat) × (vS)) => post u.1 u.2.1 u.2.2.1 u.2.2.2.1 u.2.2.2.2.1 u.2.2.2.2.2.1 u.2.2.2.2.2.2.1 u.2.2.2.2.2.2.2.1 u.2.2.2.2.2.2.2.2.1 u.2.2.2.2.2.2.2.2.2.1 u.2.2.2.2.2.2.2.2.2.2) (wAt (dC, dI) vwCl [(cI, .int), (cJ, .long), (cP, .object "YearBook$Picture")] (va_A (wd3 cI cJ cP h ad ad0 ad1 I R CI CJ CR CG EI ER Eq En V) sz) (fun u : (Nat → Int32) × (Nat → Nat → Int32) × (Nat → Int32) × (Nat → Int64) × (Nat → Nat → Int32) × (Nat → Nat → Int64) × (Nat → Int32) × (Nat → Nat → Int32) × (Nat) × (Nat) × (vS) => wd3 cI cJ cP h ad ad0 ad1 u.1 u.2.1 u.2.2.1 u.2.2.2.1 u.2.2.2.2.1 u.2.2.2.2.2.1 u.2.2.2.2.2.2.1 u.2.2.2.2.2.2.2.1 u.2.2.2.2.2.2.2.2.1 u.2.2.2.2.2.2.2.2.2.1 u.2.2.2.2.2.2.2.2.2.2)) (va_A (wd3 cI cJ cP h ad ad0 ad1 I R CI CJ CR CG EI ER Eq En V) sz)) 0 0 (va_A (wd3 cI cJ cP h ad ad0 ad1 I R CI CJ CR CG EI ER Eq En V) sz) := by
  unfold qX3_offerPictures at hq
  refine Met.ofW (cc := cX3_offerPictures) (maxL := 7) (ret := none) (by decide) rfl ?_
  intro p e s m args below meth c s₁ B hml hv
  obtain ⟨rfl, ⟨hsz, hP, hK, hD0⟩, hn⟩ := hv
  have hx := B.exec
  have hb := B.bytes
  have hr := B.returns
  have hts := atoms_spec (ws := wsX3_offerPictures) B.pre
  have hown : s.vm.findClass RX3 = some m.cls := findClass_of_methodNamed B.named
  have hlocks := B.notSynchronized
  subst hsz
  have hD := hD0.self (sz := s.heap.size)
  generalize hAe : va_A (wd3 cI cJ cP h ad ad0 ad1 I R CI CJ CR CG EI ER Eq En V) s.heap.size = A at hD ⊢
  have hA : ∀ q : Nat, s.heap.size ≤ q → A q := fun q h => by rw [← hAe]; exact Or.inr h
  have hS : va_S A s.heap s.heap [] := va_S.rf
  have hZ : zX3_offerPictures post p1
      (fun (x3 : Int32) (I : Nat → Int32) (R : Nat → Nat → Int32) (CI : Nat → Int32) (CJ : Nat → Int64) (CR : Nat → Nat → Int32) (CG : Nat → Nat → Int64) (EI : Nat → Int32) (ER : Nat → Nat → Int32) (Eq : Nat) (En : Nat) (V : vS) => ∀ (H : Heap) (locs : List Loc) (ls : Array Slot), va_P (dC, dI) vwCl (wd3 cI cJ cP h ad ad0 ad1 I R CI CJ CR CG EI ER Eq En V) H → va_D A (wd3 cI cJ cP h ad ad0 ad1 I R CI CJ CR CG EI ER Eq En V) → va_S A s.heap H locs → lv_has ls 7 [(0, .ref h), (1, .long p1), (3, .int x3)] → W p l e (headSpec wsX3_offerPictures ({ frames := 2, cells := 0, slots := 0, locals := 47 } : Room)).room s m ([.ref h, .long p1] : List Value).toArray below meth c H locs 0 0 (MQ below (va_Qv (fun (u : (Nat → Int32) × (Nat → Nat → Int32) × (Nat → Int32) × (Nat → Int64) × (Nat → Nat → Int32) × (Nat → Nat → Int64) × (Nat → Int32) × (Nat → Nat → Int32) × (Nat) × (Nat) × (vS)) => post u.1 u.2.1 u.2.2.1 u.2.2.2.1 u.2.2.2.2.1 u.2.2.2.2.2.1 u.2.2.2.2.2.2.1 u.2.2.2.2.2.2.2.1 u.2.2.2.2.2.2.2.2.1 u.2.2.2.2.2.2.2.2.2.1 u.2.2.2.2.2.2.2.2.2.2) (wAt (dC, dI) vwCl [(cI, .int), (cJ, .long), (cP, .object "YearBook$Picture")] A (fun u : (Nat → Int32) × (Nat → Nat → Int32) × (Nat → Int32) × (Nat → Int64) × (Nat → Nat → Int32) × (Nat → Nat → Int64) × (Nat → Int32) × (Nat → Nat → Int32) × (Nat) × (Nat) × (vS) => wd3 cI cJ cP h ad ad0 ad1 u.1 u.2.1 u.2.2.1 u.2.2.2.1 u.2.2.2.2.1 u.2.2.2.2.2.1 u.2.2.2.2.2.2.1 u.2.2.2.2.2.2.2.1 u.2.2.2.2.2.2.2.2.1 u.2.2.2.2.2.2.2.2.2.1 u.2.2.2.2.2.2.2.2.2.2)) A) ([.ref h, .long p1] : List Value).toArray s 0 0 A) (F0 m 21 ls []))
      (fun (x3 : Int32) (k0 : Int64) (k1 : Int64) (k2 : Int32) (k3 : Int32) (I : Nat → Int32) (R : Nat → Nat → Int32) (CI : Nat → Int32) (CJ : Nat → Int64) (CR : Nat → Nat → Int32) (CG : Nat → Nat → Int64) (EI : Nat → Int32) (ER : Nat → Nat → Int32) (Eq : Nat) (En : Nat) (V : vS) => ∀ (H : Heap) (locs : List Loc) (ls : Array Slot), va_P (dC, dI) vwCl (wd3 cI cJ cP h ad ad0 ad1 I R CI CJ CR CG EI ER Eq En V) H → va_D A (wd3 cI cJ cP h ad ad0 ad1 I R CI CJ CR CG EI ER Eq En V) → va_S A s.heap H locs → lv_has ls 7 [(0, .ref h), (1, .long p1), (3, .int x3)] → W p l e (headSpec wsX3_offerPictures ({ frames := 2, cells := 0, slots := 0, locals := 47 } : Room)).room s m ([.ref h, .long p1] : List Value).toArray below meth c H locs 0 0 (MQ below (va_Qv (fun (u : (Nat → Int32) × (Nat → Nat → Int32) × (Nat → Int32) × (Nat → Int64) × (Nat → Nat → Int32) × (Nat → Nat → Int64) × (Nat → Int32) × (Nat → Nat → Int32) × (Nat) × (Nat) × (vS)) => post u.1 u.2.1 u.2.2.1 u.2.2.2.1 u.2.2.2.2.1 u.2.2.2.2.2.1 u.2.2.2.2.2.2.1 u.2.2.2.2.2.2.2.1 u.2.2.2.2.2.2.2.2.1 u.2.2.2.2.2.2.2.2.2.1 u.2.2.2.2.2.2.2.2.2.2) (wAt (dC, dI) vwCl [(cI, .int), (cJ, .long), (cP, .object "YearBook$Picture")] A (fun u : (Nat → Int32) × (Nat → Nat → Int32) × (Nat → Int32) × (Nat → Int64) × (Nat → Nat → Int32) × (Nat → Nat → Int64) × (Nat → Int32) × (Nat → Nat → Int32) × (Nat) × (Nat) × (vS) => wd3 cI cJ cP h ad ad0 ad1 u.1 u.2.1 u.2.2.1 u.2.2.2.1 u.2.2.2.2.1 u.2.2.2.2.2.1 u.2.2.2.2.2.2.1 u.2.2.2.2.2.2.2.1 u.2.2.2.2.2.2.2.2.1 u.2.2.2.2.2.2.2.2.2.1 u.2.2.2.2.2.2.2.2.2.2)) A) ([.ref h, .long p1] : List Value).toArray s 0 0 A) (F0 m 86 ls [.long k0, .long k1, .int k2, .int k3, .ref (ad 7)])) := by
    refine ⟨?_, ?_⟩
    · intro x3 I R CI CJ CR CG EI ER Eq En V hq H locs ls hP hD hS hl
      refine lv_iload_n hx hb dX3_offerPictures_21 rfl (lv_at hl 2 rfl) ?_
      refine lv_aload_n hx hb dX3_offerPictures_22 rfl (lv_at hl 0 rfl) ?_
      refine va_get (D := (dC, dI)) (ci := 3) (v := .int (I 4)) (C := RX3) (T := TX3) (N := 9) hx hb hts nX3_offerPictures_X3 hown hK hP 0 rfl rfl 4 (by decide) (hts _ mX3_offerPictures_f51) (fun _ h9 => h9) rfl dX3_offerPictures_23 ?_
      refine lv_icmp_ge (tgt := 96) hx hb dX3_offerPictures_26 (by decide) (fun hc => ?_) (fun hc => ?_)
      · have hq := hq.1 hc
        refine lv_aload_n hx hb dX3_offerPictures_96 rfl (lv_at hl 0 rfl) ?_
        refine va_get (D := (dC, dI)) (ci := 3) (v := .ref (ad 7)) (C := RX3) (T := TX3) (N := 9) hx hb hts nX3_offerPictures_X3 hown hK hP 0 rfl rfl 7 (by decide) (hts _ mX3_offerPictures_f28) (fun _ h9 => h9) rfl dX3_offerPictures_97 ?_
        obtain ⟨Pc_2, hc, hq⟩ := hq
        refine w_callv (wf := fun u : (Nat → Int32) × (Nat → Int64) × (Nat → Nat → Int32) × (Nat → Nat → Int64) => wd3 cI cJ cP h ad ad0 ad1 I R u.1 u.2.1 u.2.2.1 u.2.2.2 EI ER Eq En V) (va_runV (As := []) (rest := []) ⟨hx, hb, hml, hown, hts⟩ (Met_frame_v (w' := fun u : (Nat → Int32) × (Nat → Int64) × (Nat → Nat → Int32) × (Nat → Nat → Int64) => wd3 cI cJ cP h ad ad0 ad1 I R u.1 u.2.1 u.2.2.1 u.2.2.2 EI ER Eq En V) (tys2 := [(cI, .int), (cJ, .long), (cP, .object "YearBook$Picture")]) (tX0_sumUp l dC dI cI cJ (ad 7) ad0 _ Pc_2  CI CJ CR CG hc) (p3c cI cJ cP h ad ad0 ad1 I R CI CJ CR CG EI ER Eq En V) (fun u => (p3c cI cJ cP h ad ad0 ad1 I R u.1 u.2.1 u.2.2.1 u.2.2.2 EI ER Eq En V).symm) (fun U hU => hU.sub [0, 1] rfl)) (cwV 0 hts gX3_offerPictures_X0_sumUp rfl rfl rfl (by decide +kernel) ⟨Nat.le_of_ble_eq_true rfl, Nat.le_of_ble_eq_true rfl⟩) (wPreV hK hP hD (ci := 0) (q0 := 5) rfl rfl) rfl rfl hl.1 rfl (lv_room (Nat.le_of_ble_eq_true rfl)) dX3_offerPictures_100 ⟨Nat.le_of_ble_eq_true rfl, Nat.le_of_ble_eq_true rfl⟩) hD hS hA (fun u H locs hp hP hD hS => ?_)
        obtain ⟨CIc_2, CJc_2, CRc_2, CGc_2⟩ := u
        have hq := hq CIc_2 CJc_2 CRc_2 CGc_2 hp
        have hP : va_P (dC, dI) vwCl (wd3 cI cJ cP h ad ad0 ad1 I R CIc_2 CJc_2 CRc_2 CGc_2 EI ER Eq En V) H := hP
        have hD : va_D A (wd3 cI cJ cP h ad ad0 ad1 I R CIc_2 CJc_2 CRc_2 CGc_2 EI ER Eq En V) := hD
        exact w_vret (post := fun (u : (Nat → Int32) × (Nat → Nat → Int32) × (Nat → Int32) × (Nat → Int64) × (Nat → Nat → Int32) × (Nat → Nat → Int64) × (Nat → Int32) × (Nat → Nat → Int32) × (Nat) × (Nat) × (vS)) => post u.1 u.2.1 u.2.2.1 u.2.2.2.1 u.2.2.2.2.1 u.2.2.2.2.2.1 u.2.2.2.2.2.2.1 u.2.2.2.2.2.2.2.1 u.2.2.2.2.2.2.2.2.1 u.2.2.2.2.2.2.2.2.2.1 u.2.2.2.2.2.2.2.2.2.2) (wf := fun u : (Nat → Int32) × (Nat → Nat → Int32) × (Nat → Int32) × (Nat → Int64) × (Nat → Nat → Int32) × (Nat → Nat → Int64) × (Nat → Int32) × (Nat → Nat → Int32) × (Nat) × (Nat) × (vS) => wd3 cI cJ cP h ad ad0 ad1 u.1 u.2.1 u.2.2.1 u.2.2.2.1 u.2.2.2.2.1 u.2.2.2.2.2.1 u.2.2.2.2.2.2.1 u.2.2.2.2.2.2.2.1 u.2.2.2.2.2.2.2.2.1 u.2.2.2.2.2.2.2.2.2.1 u.2.2.2.2.2.2.2.2.2.2) (u := (I, R, CIc_2, CJc_2, CRc_2, CGc_2, EI, ER, Eq, En, V)) hx hb hr hK hP hD hS hq dX3_offerPictures_103 hlocks
      · have hq := hq.2 hc
        refine lv_aload_n hx hb dX3_offerPictures_29 rfl (lv_at hl 0 rfl) ?_
        refine lv_iload_n hx hb dX3_offerPictures_30 rfl (lv_at hl 2 rfl) ?_
        obtain ⟨Pc_3, hc, hq⟩ := hq
        refine w_calli (wf := fun _ : Unit => wd3 cI cJ cP h ad ad0 ad1 I R CI CJ CR CG EI ER Eq En V) (va_runV (As := [.int x3]) (rest := []) ⟨hx, hb, hml, hown, hts⟩ (tX3_shownIn l dC dI cI cJ cP h ad ad0 ad1 _ Pc_3 x3 I R CI CJ CR CG EI ER Eq En V hc) (cwV 1 hts gX3_offerPictures_X3_shownIn rfl rfl rfl (by decide +kernel) ⟨Nat.le_of_ble_eq_true rfl, Nat.le_of_ble_eq_true rfl⟩) (wPreVN hn hK hP hD (ci := 3) (q0 := 0) rfl rfl) rfl rfl hl.1 rfl (lv_room (Nat.le_of_ble_eq_true rfl)) dX3_offerPictures_31 ⟨Nat.le_of_ble_eq_true rfl, Nat.le_of_ble_eq_true rfl⟩) hD hS hA (fun rc_3 u H locs hp hP hD hS => ?_)
        have hq := hq rc_3 hp
        have hP : va_P (dC, dI) vwCl (wd3 cI cJ cP h ad ad0 ad1 I R CI CJ CR CG EI ER Eq En V) H := hP
        have hD : va_D A (wd3 cI cJ cP h ad ad0 ad1 I R CI CJ CR CG EI ER Eq En V) := hD
        refine lv_istore (lv' := [(4, .int rc_3), (0, .ref h), (1, .long p1), (3, .int x3)]) hx hb dX3_offerPictures_34 hl (by decide) rfl (fun ls hl => ?_)
        refine lv_iload hx hb dX3_offerPictures_36 (lv_at hl 0 rfl) ?_
        refine lv_if_eq (tgt := 90) hx hb dX3_offerPictures_38 (by decide) (fun hc => ?_) (fun hc => ?_)
        · have hq := hq.1 hc
          refine lv_iinc (v := x3 + (1 : Int32)) (lv' := [(3, .int (x3 + (1 : Int32))), (4, .int rc_3), (0, .ref h), (1, .long p1)]) hx hb dX3_offerPictures_90 hl (k := 3) rfl rfl (by decide) rfl (fun ls hl => ?_)
          refine lv_goto (tgt := 21) hx hb dX3_offerPictures_93 (by decide) ?_
          exact hq _ _ ls hP hD hS (lv_sub hl [2, 3, 0] rfl)
        · have hq := hq.2 hc
          refine lv_aload_n hx hb dX3_offerPictures_41 rfl (lv_at hl 1 rfl) ?_
          refine lv_iload_n hx hb dX3_offerPictures_42 rfl (lv_at hl 3 rfl) ?_
          obtain ⟨Pc_4, hc, hq⟩ := hq
          refine w_calli (wf := fun _ : Unit => wd3 cI cJ cP h ad ad0 ad1 I R CI CJ CR CG EI ER Eq En V) (va_runV (As := [.int x3]) (rest := []) ⟨hx, hb, hml, hown, hts⟩ (tX3_worthOf l dC dI cI cJ cP h ad ad0 ad1 _ Pc_4 x3 I R CI CJ CR CG EI ER Eq En V hc) (cwV 1 hts gX3_offerPictures_X3_worthOf rfl rfl rfl (by decide +kernel) ⟨Nat.le_of_ble_eq_true rfl, Nat.le_of_ble_eq_true rfl⟩) (wPreVN hn hK hP hD (ci := 3) (q0 := 0) rfl rfl) rfl rfl hl.1 rfl (lv_room (Nat.le_of_ble_eq_true rfl)) dX3_offerPictures_43 ⟨Nat.le_of_ble_eq_true rfl, Nat.le_of_ble_eq_true rfl⟩) hD hS hA (fun rc_4 u H locs hp hP hD hS => ?_)
          have hq := hq rc_4 hp
          have hP : va_P (dC, dI) vwCl (wd3 cI cJ cP h ad ad0 ad1 I R CI CJ CR CG EI ER Eq En V) H := hP
          have hD : va_D A (wd3 cI cJ cP h ad ad0 ad1 I R CI CJ CR CG EI ER Eq En V) := hD
          refine lv_i2l (v := rc_4.toInt64) hx hb dX3_offerPictures_46 rfl ?_
          refine lv_ldc2 (v := (262144 : Int64)) hx hb hown (hts _ mX3_offerPictures_c195) dX3_offerPictures_47 ?_
          refine lv_lmul hx hb dX3_offerPictures_50 ?_
          refine lv_ldc2 (v := (16384 : Int64)) hx hb hown (hts _ mX3_offerPictures_c197) dX3_offerPictures_51 ?_
          refine lv_lsub hx hb dX3_offerPictures_54 ?_
          refine lv_lconst (v := (1 : Int64)) hx hb dX3_offerPictures_55 (by decide) ?_
          refine lv_iload_n hx hb dX3_offerPictures_56 rfl (lv_at hl 3 rfl) ?_
          refine lv_lshl (v := (1 : Int64) <<< (x3.toInt64 &&& 63)) hx hb dX3_offerPictures_57 rfl ?_
          refine lv_lsub hx hb dX3_offerPictures_58 ?_
          refine lv_topl (fun x5_5 ex5_5 => ?_)
          have hq := hq x5_5 ex5_5
          refine lv_lstore (lv' := [(5, .long x5_5), (4, .int rc_3), (0, .ref h), (1, .long p1), (3, .int x3)]) hx hb dX3_offerPictures_59 hl (by decide) rfl (fun ls hl => ?_)
          refine lv_aload_n hx hb dX3_offerPictures_61 rfl (lv_at hl 2 rfl) ?_
          refine va_get (D := (dC, dI)) (ci := 3) (v := .ref (ad 7)) (C := RX3) (T := TX3) (N := 9) hx hb hts nX3_offerPictures_X3 hown hK hP 0 rfl rfl 7 (by decide) (hts _ mX3_offerPictures_f28) (fun _ h9 => h9) rfl dX3_offerPictures_62 ?_
          refine lv_iconst (v := (1 : Int32)) hx hb dX3_offerPictures_65 (by decide) ?_
          refine lv_iload_n hx hb dX3_offerPictures_66 rfl (lv_at hl 4 rfl) ?_
          refine lv_ishl hx hb dX3_offerPictures_67 ?_
          refine lv_iload hx hb dX3_offerPictures_68 (lv_at hl 1 rfl) ?_
          refine lv_lload hx hb dX3_offerPictures_70 (lv_at hl 0 rfl) ?_
          refine lv_aload_n hx hb dX3_offerPictures_72 rfl (lv_at hl 2 rfl) ?_
          refine lv_iload_n hx hb dX3_offerPictures_73 rfl (lv_at hl 4 rfl) ?_
          obtain ⟨Pc_6, hc, hq⟩ := hq
          refine w_calli (wf := fun _ : Unit => wd3 cI cJ cP h ad ad0 ad1 I R CI CJ CR CG EI ER Eq En V) (va_runV (As := [.int x3]) (rest := [.long x5_5, .int rc_3, .int ((1 : Int32) <<< (x3 &&& 31)), .ref (ad 7)]) ⟨hx, hb, hml, hown, hts⟩ (tX3_isChosen l dC dI cI cJ cP h ad ad0 ad1 _ Pc_6 x3 I R CI CJ CR CG EI ER Eq En V hc) (cwV 1 hts gX3_offerPictures_X3_isChosen rfl rfl rfl (by decide +kernel) ⟨Nat.le_of_ble_eq_true rfl, Nat.le_of_ble_eq_true rfl⟩) (wPreVN hn hK hP hD (ci := 3) (q0 := 0) rfl rfl) rfl rfl hl.1 rfl (lv_room (Nat.le_of_ble_eq_true rfl)) dX3_offerPictures_74 ⟨Nat.le_of_ble_eq_true rfl, Nat.le_of_ble_eq_true rfl⟩) hD hS hA (fun rc_6 u H locs hp hP hD hS => ?_)
          have hq := hq rc_6 hp
          have hP : va_P (dC, dI) vwCl (wd3 cI cJ cP h ad ad0 ad1 I R CI CJ CR CG EI ER Eq En V) H := hP
          have hD : va_D A (wd3 cI cJ cP h ad ad0 ad1 I R CI CJ CR CG EI ER Eq En V) := hD
          refine lv_if_eq (tgt := 84) hx hb dX3_offerPictures_77 (by decide) (fun hc => ?_) (fun hc => ?_)
          · have hq := hq.1 hc
            refine lv_lload_n hx hb dX3_offerPictures_84 rfl (lv_at hl 3 rfl) ?_
            refine lv_lneg hx hb dX3_offerPictures_85 ?_
            exact hq _ _ ls hP hD hS (lv_sub hl [2, 3, 4] rfl)
          · have hq := hq.2 hc
            refine lv_lload_n hx hb dX3_offerPictures_80 rfl (lv_at hl 3 rfl) ?_
            refine lv_goto (tgt := 86) hx hb dX3_offerPictures_81 (by decide) ?_
            exact hq _ _ ls hP hD hS (lv_sub hl [2, 3, 4] rfl)
    · intro x3 k0 k1 k2 k3 I R CI CJ CR CG EI ER Eq En V hq H locs ls hP hD hS hl
      refine lv_ladd hx hb dX3_offerPictures_86 ?_
      obtain ⟨Pc_7, hc, hq⟩ := hq
      refine w_callv (wf := fun u : (Nat → Int32) × (Nat → Int64) × (Nat → Nat → Int32) × (Nat → Nat → Int64) => wd3 cI cJ cP h ad ad0 ad1 I R u.1 u.2.1 u.2.2.1 u.2.2.2 EI ER Eq En V) (va_runV (As := [.int k3, .int k2, .long (k1 + k0)]) (rest := []) ⟨hx, hb, hml, hown, hts⟩ (Met_frame_v (w' := fun u : (Nat → Int32) × (Nat → Int64) × (Nat → Nat → Int32) × (Nat → Nat → Int64) => wd3 cI cJ cP h ad ad0 ad1 I R u.1 u.2.1 u.2.2.1 u.2.2.2 EI ER Eq En V) (tys2 := [(cI, .int), (cJ, .long), (cP, .object "YearBook$Picture")]) (tX0_offer l dC dI cI cJ (ad 7) ad0 _ Pc_7 k3 k2 (k1 + k0) CI CJ CR CG hc) (p3c cI cJ cP h ad ad0 ad1 I R CI CJ CR CG EI ER Eq En V) (fun u => (p3c cI cJ cP h ad ad0 ad1 I R u.1 u.2.1 u.2.2.1 u.2.2.2 EI ER Eq En V).symm) (fun U hU => hU.sub [0, 1] rfl)) (cwV 3 hts gX3_offerPictures_X0_offer rfl rfl rfl (by decide +kernel) ⟨Nat.le_of_ble_eq_true rfl, Nat.le_of_ble_eq_true rfl⟩) (wPreV hK hP hD (ci := 0) (q0 := 5) rfl rfl) rfl rfl hl.1 rfl (lv_room (Nat.le_of_ble_eq_true rfl)) dX3_offerPictures_87 ⟨Nat.le_of_ble_eq_true rfl, Nat.le_of_ble_eq_true rfl⟩) hD hS hA (fun u H locs hp hP hD hS => ?_)
      obtain ⟨CIc_7, CJc_7, CRc_7, CGc_7⟩ := u
      have hq := hq CIc_7 CJc_7 CRc_7 CGc_7 hp
      have hP : va_P (dC, dI) vwCl (wd3 cI cJ cP h ad ad0 ad1 I R CIc_7 CJc_7 CRc_7 CGc_7 EI ER Eq En V) H := hP
      have hD : va_D A (wd3 cI cJ cP h ad ad0 ad1 I R CIc_7 CJc_7 CRc_7 CGc_7 EI ER Eq En V) := hD
      refine lv_iinc (v := x3 + (1 : Int32)) (lv' := [(3, .int (x3 + (1 : Int32))), (0, .ref h), (1, .long p1)]) hx hb dX3_offerPictures_90 hl (k := 2) rfl rfl (by decide) rfl (fun ls hl => ?_)
      refine lv_goto (tgt := 21) hx hb dX3_offerPictures_93 (by decide) ?_
      exact hq _ _ ls hP hD hS (lv_sub hl [1, 2, 0] rfl)
  have hl := lv_entry ([.ref h, .long p1]) (n := 7) (Nat.le_of_ble_eq_true rfl)
  rw [lg_entry_eq]
  generalize (lg_sl ([.ref h, .long p1]) ++ List.replicate (7 - (lg_sl ([.ref h, .long p1])).length) Slot.unset).toArray = ls at hl ⊢
  have hl : lv_has ls 7 [(0, .ref h), (1, .long p1)] := hl
  refine lv_aload_n hx hb dX3_offerPictures_0 rfl (lv_at hl 0 rfl) ?_
  refine va_get (D := (dC, dI)) (ci := 3) (v := .ref (ad 7)) (C := RX3) (T := TX3) (N := 9) hx hb hts nX3_offerPictures_X3 hown hK hP 0 rfl rfl 7 (by decide) (hts _ mX3_offerPictures_f28) (fun _ h9 => h9) rfl dX3_offerPictures_1 ?_
  refine lv_aload_n hx hb dX3_offerPictures_4 rfl (lv_at hl 0 rfl) ?_
  refine va_get (D := (dC, dI)) (ci := 3) (v := .ref (ad 5)) (C := RX3) (T := TX3) (N := 9) hx hb hts nX3_offerPictures_X3 hown hK hP 0 rfl rfl 5 (by decide) (hts _ mX3_offerPictures_f22) (fun _ h9 => h9) rfl dX3_offerPictures_5 ?_
  refine lv_iconst (v := (1 : Int32)) hx hb dX3_offerPictures_8 (by decide) ?_
  refine va_ialdk (f := R 5) hx hb hK hP 4 0 rfl rfl 1 (by decide) (by unfold vp_in; decide) dX3_offerPictures_9 ?_
  refine lv_aload_n hx hb dX3_offerPictures_10 rfl (lv_at hl 0 rfl) ?_
  refine va_get (D := (dC, dI)) (ci := 3) (v := .ref (ad 5)) (C := RX3) (T := TX3) (N := 9) hx hb hts nX3_offerPictures_X3 hown hK hP 0 rfl rfl 5 (by decide) (hts _ mX3_offerPictures_f22) (fun _ h9 => h9) rfl dX3_offerPictures_11 ?_
  refine lv_iconst (v := (2 : Int32)) hx hb dX3_offerPictures_14 (by decide) ?_
  refine va_ialdk (f := R 5) hx hb hK hP 4 0 rfl rfl 2 (by decide) (by unfold vp_in; decide) dX3_offerPictures_15 ?_
  obtain ⟨Pc_1, hc, hq⟩ := hq
  refine w_callv (wf := fun u : (Nat → Int32) × (Nat → Int64) × (Nat → Nat → Int32) × (Nat → Nat → Int64) => wd3 cI cJ cP h ad ad0 ad1 I R u.1 u.2.1 u.2.2.1 u.2.2.2 EI ER Eq En V) (va_runV (As := [.int (R 5 1), .int (R 5 2)]) (rest := []) ⟨hx, hb, hml, hown, hts⟩ (Met_frame_v (w' := fun u : (Nat → Int32) × (Nat → Int64) × (Nat → Nat → Int32) × (Nat → Nat → Int64) => wd3 cI cJ cP h ad ad0 ad1 I R u.1 u.2.1 u.2.2.1 u.2.2.2 EI ER Eq En V) (tys2 := [(cI, .int), (cJ, .long), (cP, .object "YearBook$Picture")]) (tX0_begin l dC dI cI cJ (ad 7) ad0 _ Pc_1 (R 5 1) (R 5 2) CI CJ CR CG hc) (p3c cI cJ cP h ad ad0 ad1 I R CI CJ CR CG EI ER Eq En V) (fun u => (p3c cI cJ cP h ad ad0 ad1 I R u.1 u.2.1 u.2.2.1 u.2.2.2 EI ER Eq En V).symm) (fun U hU => hU.sub [0, 1] rfl)) (cwV 2 hts gX3_offerPictures_X0_begin rfl rfl rfl (by decide +kernel) ⟨Nat.le_of_ble_eq_true rfl, Nat.le_of_ble_eq_true rfl⟩) (wPreV hK hP hD (ci := 0) (q0 := 5) rfl rfl) rfl rfl hl.1 rfl (lv_room (Nat.le_of_ble_eq_true rfl)) dX3_offerPictures_16 ⟨Nat.le_of_ble_eq_true rfl, Nat.le_of_ble_eq_true rfl⟩) hD hS hA (fun u H locs hp hP hD hS => ?_)
  obtain ⟨CIc_1, CJc_1, CRc_1, CGc_1⟩ := u
  have hq := hq CIc_1 CJc_1 CRc_1 CGc_1 hp
  have hP : va_P (dC, dI) vwCl (wd3 cI cJ cP h ad ad0 ad1 I R CIc_1 CJc_1 CRc_1 CGc_1 EI ER Eq En V) H := hP
  have hD : va_D A (wd3 cI cJ cP h ad ad0 ad1 I R CIc_1 CJc_1 CRc_1 CGc_1 EI ER Eq En V) := hD
  refine lv_iconst (v := (0 : Int32)) hx hb dX3_offerPictures_19 (by decide) ?_
  refine lv_istore_n (lv' := [(3, .int (0 : Int32)), (0, .ref h), (1, .long p1)]) hx hb dX3_offerPictures_20 rfl hl (by decide) rfl (fun ls hl => ?_)
  exact hq _ _ hZ _ _ ls hP hD hS (lv_sub hl [1, 2, 0] rfl)
def qX3_decide (post : (Nat → Int32) → (Nat → Nat → Int32) → (Nat → Int32) → (Nat → Int64) → (Nat → Nat → Int32) → (Nat → Nat → Int64) → (Nat → Int32) → (Nat → Nat → Int32) → Nat → Nat → vS → Prop) (p1 : Int32) (I : Nat → Int32) (R : Nat → Nat → Int32) (CI : Nat → Int32) (CJ : Nat → Int64) (CR : Nat → Nat → Int32) (CG : Nat → Nat → Int64) (EI : Nat → Int32) (ER : Nat → Nat → Int32) (Eq : Nat) (En : Nat) (V : vS) : Prop := ∃ Pc_1 : (Nat → Int32) → (Nat → Nat → Int32) → Nat → Nat → Prop, qX1_clear Pc_1  EI ER Eq En ∧ (∀ (EIc_1 : Nat → Int32) (ERc_1 : Nat → Nat → Int32) (Eqc_1 : Nat) (Enc_1 : Nat), Pc_1 EIc_1 ERc_1 Eqc_1 Enc_1 → (post (va_up I 6 p1) R CI CJ CR CG EIc_1 ERc_1 Eqc_1 Enc_1 V))
theorem mX3_decide_f85 : Cond.fieldLink RX3 85 "YearBook" "choice" "I" ∈ wsX3_decide := by decide +kernel
theorem nX3_decide_X3 : ∀ w ∈ u_ws RX3 TX3 9, w ∈ wsX3_decide := by decide +kernel
theorem mX3_decide_f35 : Cond.fieldLink RX3 35 "YearBook" "pages" "LYearBook$Pages;" ∈ wsX3_decide := by decide +kernel
set_option maxHeartbeats 4000000 in
set_option maxRecDepth 100000 in
theorem tX3_decide (l : Launch) (dC : Nat → ClassId) (dI : Nat → Nat → Nat) (cI : ClassId) (cJ : ClassId) (cP : ClassId) (h : Nat) (ad ad0 ad1 : Nat → Nat)  (sz : Nat) (post : (Nat → Int32) → (Nat → Nat → Int32) → (Nat → Int32) → (Nat → Int64) → (Nat → Nat → Int32) → (Nat → Nat → Int64) → (Nat → Int32) → (Nat → Nat → Int32) → Nat → Nat → vS → Prop) (p1 : Int32) (I : Nat → Int32) (R : Nat → Nat → Int32) (CI : Nat → Int32) (CJ : Nat → Int64) (CR : Nat → Nat → Int32) (CG : Nat → Nat → Int64) (EI : Nat → Int32) (ER : Nat → Nat → Int32) (Eq : Nat) (En : Nat) (V : vS) (hq : qX3_decide post p1 I R CI CJ CR CG EI ER Eq En V) : Met l yX3_decide wsX3_decide ({ frames := 1, cells := 0, slots := 0, locals := 20 } : Room) (va_Pc [.ref h, .int p1] (wPreN (dC, dI) vwCl [(cI, .int), (cJ, .long), (cP, .object "YearBook$Picture")] (wd3 cI cJ cP h ad ad0 ad1 I R CI CJ CR CG EI ER Eq En V) sz)) (va_Qv (fun (u : (Nat → Int32) × (Nat → Nat → Int32) × (Nat → Int32) × (Nat → Int64) × (Nat → Nat → Int32) × (Nat → Nat → Int64) × (Nat → Int32) × (Nat → Nat → Int32) × (Nat) × (Nat) × (vS)) => post u.1 u.2.1 u.2.2.1 u.2.2.2.1 u.2.2.2.2.1 u.2.2.2.2.2.1 u.2.2.2.2.2.2.1 u.2.2.2.2.2.2.2.1 u.2.2.2.2.2.2.2.2.1 u.2.2.2.2.2.2.2.2.2.1 u.2.2.2.2.2.2.2.2.2.2) (wAt (dC, dI) vwCl [(cI, .int), (cJ, .long), (cP, .object "YearBook$Picture")] (va_A (wd3 cI cJ cP h ad ad0 ad1 I R CI CJ CR CG EI ER Eq En V) sz) (fun u : (Nat → Int32) × (Nat → Nat → Int32) × (Nat → Int32) × (Nat → Int64) × (Nat → Nat → Int32) × (Nat → Nat → Int64) × (Nat → Int32) × (Nat → Nat → Int32) × (Nat) × (Nat) × (vS) => wd3 cI cJ cP h ad ad0 ad1 u.1 u.2.1 u.2.2.1 u.2.2.2.1 u.2.2.2.2.1 u.2.2.2.2.2.1 u.2.2.2.2.2.2.1 u.2.2.2.2.2.2.2.1 u.2.2.2.2.2.2.2.2.1 u.2.2.2.2.2.2.2.2.2.1 u.2.2.2.2.2.2.2.2.2.2)) (va_A (wd3 cI cJ cP h ad ad0 ad1 I R CI CJ CR CG EI ER Eq En V) sz)) 0 0 (va_A (wd3 cI cJ cP h ad ad0 ad1 I R CI CJ CR CG EI ER Eq En V) sz) := by
  unfold qX3_decide at hq
  refine Met.ofW (cc := cX3_decide) (maxL := 2) (ret := none) (by decide) rfl ?_
  intro p e s m args below meth c s₁ B hml hv
  obtain ⟨rfl, ⟨hsz, hP, hK, hD0⟩, hn⟩ := hv
  have hx := B.exec
  have hb := B.bytes
  have hr := B.returns
  have hts := atoms_spec (ws := wsX3_decide) B.pre
  have hown : s.vm.findClass RX3 = some m.cls := findClass_of_methodNamed B.named
  have hlocks := B.notSynchronized
  subst hsz
  have hD := hD0.self (sz := s.heap.size)
  generalize hAe : va_A (wd3 cI cJ cP h ad ad0 ad1 I R CI CJ CR CG EI ER Eq En V) s.heap.size = A at hD ⊢
  have hA : ∀ q : Nat, s.heap.size ≤ q → A q := fun q h => by rw [← hAe]; exact Or.inr h
  have hS : va_S A s.heap s.heap [] := va_S.rf
  have hl := lv_entry ([.ref h, .int p1]) (n := 2) (Nat.le_of_ble_eq_true rfl)
  rw [lg_entry_eq]
  generalize (lg_sl ([.ref h, .int p1]) ++ List.replicate (2 - (lg_sl ([.ref h, .int p1])).length) Slot.unset).toArray = ls at hl ⊢
  have hl : lv_has ls 2 [(0, .ref h), (1, .int p1)] := hl
  refine lv_aload_n hx hb dX3_decide_0 rfl (lv_at hl 0 rfl) ?_
  refine lv_iload_n hx hb dX3_decide_1 rfl (lv_at hl 1 rfl) ?_
  refine va_put (D := (dC, dI)) (ci := 3) (v := .int p1) (ty := .int) (C := RX3) (T := TX3) (N := 9) hx hb hts nX3_decide_X3 tyX3 tyX3_ok nmX3 hown hK hP hD hS 0 rfl rfl 6 (by decide) (hts _ mX3_decide_f85) (fun _ h9 => h9) rfl (by decide +kernel) rfl rfl (Nat.le_of_ble_eq_true rfl) dX3_decide_2 (fun H locs hP hD hS => ?_)
  rw [wd3_I6] at hP hD
  refine lv_aload_n hx hb dX3_decide_5 rfl (lv_at hl 0 rfl) ?_
  refine va_get (D := (dC, dI)) (ci := 3) (v := .ref (ad 8)) (C := RX3) (T := TX3) (N := 9) hx hb hts nX3_decide_X3 hown hK hP 0 rfl rfl 8 (by decide) (hts _ mX3_decide_f35) (fun _ h9 => h9) rfl dX3_decide_6 ?_
  obtain ⟨Pc_1, hc, hq⟩ := hq
  refine w_callv (wf := fun u : (Nat → Int32) × (Nat → Nat → Int32) × (Nat) × (Nat) => wd3 cI cJ cP h ad ad0 ad1 (va_up I 6 p1) R CI CJ CR CG u.1 u.2.1 u.2.2.1 u.2.2.2 V) (va_runV (As := []) (rest := []) ⟨hx, hb, hml, hown, hts⟩ (Met_frame_v (w' := fun u : (Nat → Int32) × (Nat → Nat → Int32) × (Nat) × (Nat) => wd3 cI cJ cP h ad ad0 ad1 (va_up I 6 p1) R CI CJ CR CG u.1 u.2.1 u.2.2.1 u.2.2.2 V) (tys2 := [(cI, .int), (cJ, .long), (cP, .object "YearBook$Picture")]) (tX1_clear l dC dI cI (ad 8) ad1 _ Pc_1  EI ER Eq En hc) (p3e cI cJ cP h ad ad0 ad1 (va_up I 6 p1) R CI CJ CR CG EI ER Eq En V) (fun u => (p3e cI cJ cP h ad ad0 ad1 (va_up I 6 p1) R CI CJ CR CG u.1 u.2.1 u.2.2.1 u.2.2.2 V).symm) (fun U hU => hU.sub [0] rfl)) (cwV 0 hts gX3_decide_X1_clear rfl rfl rfl (by decide +kernel) ⟨Nat.le_of_ble_eq_true rfl, Nat.le_of_ble_eq_true rfl⟩) (wPreV hK hP hD (ci := 1) (q0 := 13) rfl rfl) rfl rfl hl.1 rfl (lv_room (Nat.le_of_ble_eq_true rfl)) dX3_decide_9 ⟨Nat.le_of_ble_eq_true rfl, Nat.le_of_ble_eq_true rfl⟩) hD hS hA (fun u H locs hp hP hD hS => ?_)
  obtain ⟨EIc_1, ERc_1, Eqc_1, Enc_1⟩ := u
  have hq := hq EIc_1 ERc_1 Eqc_1 Enc_1 hp
  have hP : va_P (dC, dI) vwCl (wd3 cI cJ cP h ad ad0 ad1 (va_up I 6 p1) R CI CJ CR CG EIc_1 ERc_1 Eqc_1 Enc_1 V) H := hP
  have hD : va_D A (wd3 cI cJ cP h ad ad0 ad1 (va_up I 6 p1) R CI CJ CR CG EIc_1 ERc_1 Eqc_1 Enc_1 V) := hD
  exact w_vret (post := fun (u : (Nat → Int32) × (Nat → Nat → Int32) × (Nat → Int32) × (Nat → Int64) × (Nat → Nat → Int32) × (Nat → Nat → Int64) × (Nat → Int32) × (Nat → Nat → Int32) × (Nat) × (Nat) × (vS)) => post u.1 u.2.1 u.2.2.1 u.2.2.2.1 u.2.2.2.2.1 u.2.2.2.2.2.1 u.2.2.2.2.2.2.1 u.2.2.2.2.2.2.2.1 u.2.2.2.2.2.2.2.2.1 u.2.2.2.2.2.2.2.2.2.1 u.2.2.2.2.2.2.2.2.2.2) (wf := fun u : (Nat → Int32) × (Nat → Nat → Int32) × (Nat → Int32) × (Nat → Int64) × (Nat → Nat → Int32) × (Nat → Nat → Int64) × (Nat → Int32) × (Nat → Nat → Int32) × (Nat) × (Nat) × (vS) => wd3 cI cJ cP h ad ad0 ad1 u.1 u.2.1 u.2.2.1 u.2.2.2.1 u.2.2.2.2.1 u.2.2.2.2.2.1 u.2.2.2.2.2.2.1 u.2.2.2.2.2.2.2.1 u.2.2.2.2.2.2.2.2.1 u.2.2.2.2.2.2.2.2.2.1 u.2.2.2.2.2.2.2.2.2.2) (u := (va_up I 6 p1, R, CI, CJ, CR, CG, EIc_1, ERc_1, Eqc_1, Enc_1, V)) hx hb hr hK hP hD hS hq dX3_decide_12 hlocks
def zX3_worthOfChoice (post : Int32 → Prop) (I : Nat → Int32) (R : Nat → Nat → Int32) (CI : Nat → Int32) (CJ : Nat → Int64) (CR : Nat → Nat → Int32) (CG : Nat → Nat → Int64) (EI : Nat → Int32) (ER : Nat → Nat → Int32) (Eq : Nat) (En : Nat) (V : vS) (X4 : Int32 → Int32 → Prop) : Prop :=
  (∀ (x1 : Int32) (x2 : Int32), ((((I 4) ≤ x2) → (post x1)) ∧ ((¬ (I 4) ≤ x2) → (∃ Pc_1 : Int32 → Prop, qX3_isChosen Pc_1 x2 I R CI CJ CR CG EI ER Eq En V ∧ (∀ (rc_1 : Int32), Pc_1 rc_1 → (((rc_1 = 0) → (X4 x1 (x2 + (1 : Int32)))) ∧ ((¬ rc_1 = 0) → (∃ Pc_2 : Int32 → Prop, qX3_worthOf Pc_2 x2 I R CI CJ CR CG EI ER Eq En V ∧ (∀ (rc_2 : Int32), Pc_2 rc_2 → (∀ x1_3 : Int32, x1_3 = x1 + rc_2 → (X4 x1_3 (x2 + (1 : Int32)))))))))))) → X4 x1 x2)
def qX3_worthOfChoice_4 (post : Int32 → Prop) (I : Nat → Int32) (R : Nat → Nat → Int32) (CI : Nat → Int32) (CJ : Nat → Int64) (CR : Nat → Nat → Int32) (CG : Nat → Nat → Int64) (EI : Nat → Int32) (ER : Nat → Nat → Int32) (Eq : Nat) (En : Nat) (V : vS) (x1 : Int32) (x2 : Int32) : Prop := ∀ (X4 : Int32 → Int32 → Prop), zX3_worthOfChoice post I R CI CJ CR CG EI ER Eq En V X4 → X4 x1 x2
theorem kX3_worthOfChoice_4 {post : Int32 → Prop} {I : Nat → Int32} {R : Nat → Nat → Int32} {CI : Nat → Int32} {CJ : Nat → Int64} {CR : Nat → Nat → Int32} {CG : Nat → Nat → Int64} {EI : Nat → Int32} {ER : Nat → Nat → Int32} {Eq : Nat} {En : Nat} {V : vS} {x1 : Int32} {x2 : Int32} (h : (((I 4) ≤ x2) → (post x1)) ∧ ((¬ (I 4) ≤ x2) → (∃ Pc_1 : Int32 → Prop, qX3_isChosen Pc_1 x2 I R CI CJ CR CG EI ER Eq En V ∧ (∀ (rc_1 : Int32), Pc_1 rc_1 → (((rc_1 = 0) → (qX3_worthOfChoice_4 post I R CI CJ CR CG EI ER Eq En V x1 (x2 + (1 : Int32)))) ∧ ((¬ rc_1 = 0) → (∃ Pc_2 : Int32 → Prop, qX3_worthOf Pc_2 x2 I R CI CJ CR CG EI ER Eq En V ∧ (∀ (rc_2 : Int32), Pc_2 rc_2 → (∀ x1_3 : Int32, x1_3 = x1 + rc_2 → (qX3_worthOfChoice_4 post I R CI CJ CR CG EI ER Eq En V x1_3 (x2 + (1 : Int32)))))))))))) : qX3_worthOfChoice_4 post I R CI CJ CR CG EI ER Eq En V x1 x2 := by
  intro Z4 hcl
  refine hcl x1 x2 ?_
  refine ⟨fun c => ?_, fun c => ?_⟩
  · have h := h.1 c
    exact h
  · have h := h.2 c
    obtain ⟨P, h1, h2⟩ := h
    refine ⟨P, h1, fun b0 hp => ?_⟩
    have h := h2 b0 hp
    refine ⟨fun c => ?_, fun c => ?_⟩
    · have h := h.1 c
      exact h _ hcl
    · have h := h.2 c
      obtain ⟨P, h1, h2⟩ := h
      refine ⟨P, h1, fun b0 hp => ?_⟩
      have h := h2 b0 hp
      intro x e
      have h := h x e
      exact h _ hcl
def qX3_worthOfChoice (post : Int32 → Prop) (I : Nat → Int32) (R : Nat → Nat → Int32) (CI : Nat → Int32) (CJ : Nat → Int64) (CR : Nat → Nat → Int32) (CG : Nat → Nat → Int64) (EI : Nat → Int32) (ER : Nat → Nat → Int32) (Eq : Nat) (En : Nat) (V : vS) : Prop := qX3_worthOfChoice_4 post I R CI CJ CR CG EI ER Eq En V (0 : Int32) (0 : Int32)
theorem mX3_worthOfChoice_f51 : Cond.fieldLink RX3 51 "YearBook" "pictureCount" "I" ∈ wsX3_worthOfChoice := by decide +kernel
theorem nX3_worthOfChoice_X3 : ∀ w ∈ u_ws RX3 TX3 9, w ∈ wsX3_worthOfChoice := by decide +kernel
set_option maxHeartbeats 4000000 in
set_option maxRecDepth 100000 in
theorem tX3_worthOfChoice (l : Launch) (dC : Nat → ClassId) (dI : Nat → Nat → Nat) (cI : ClassId) (cJ : ClassId) (cP : ClassId) (h : Nat) (ad ad0 ad1 : Nat → Nat)  (sz : Nat) (post : Int32 → Prop) (I : Nat → Int32) (R : Nat → Nat → Int32) (CI : Nat → Int32) (CJ : Nat → Int64) (CR : Nat → Nat → Int32) (CG : Nat → Nat → Int64) (EI : Nat → Int32) (ER : Nat → Nat → Int32) (Eq : Nat) (En : Nat) (V : vS) (hq : qX3_worthOfChoice post I R CI CJ CR CG EI ER Eq En V) : Met l yX3_worthOfChoice wsX3_worthOfChoice ({ frames := 2, cells := 0, slots := 0, locals := 43 } : Room) (va_Pc [.ref h] (wPreN (dC, dI) vwCl [(cI, .int), (cJ, .long), (cP, .object "YearBook$Picture")] (wd3 cI cJ cP h ad ad0 ad1 I R CI CJ CR CG EI ER Eq En V) sz)) (va_Qi (fun r (_ : Unit) => post r ) (wAt (dC, dI) vwCl [(cI, .int), (cJ, .long), (cP, .object "YearBook$Picture")] (va_A (wd3 cI cJ cP h ad ad0 ad1 I R CI CJ CR CG EI ER Eq En V) sz) (fun _ : Unit => wd3 cI cJ cP h ad ad0 ad1 I R CI CJ CR CG EI ER Eq En V)) (va_A (wd3 cI cJ cP h ad ad0 ad1 I R CI CJ CR CG EI ER Eq En V) sz)) 0 0 (va_A (wd3 cI cJ cP h ad ad0 ad1 I R CI CJ CR CG EI ER Eq En V) sz) := by
  unfold qX3_worthOfChoice at hq
  refine Met.ofW (cc := cX3_worthOfChoice) (maxL := 3) (ret := (some .int)) (by decide) rfl ?_
  intro p e s m args below meth c s₁ B hml hv
  obtain ⟨rfl, ⟨hsz, hP, hK, hD0⟩, hn⟩ := hv
  have hx := B.exec
  have hb := B.bytes
  have hr := B.returns
  have hts := atoms_spec (ws := wsX3_worthOfChoice) B.pre
  have hown : s.vm.findClass RX3 = some m.cls := findClass_of_methodNamed B.named
  have hlocks := B.notSynchronized
  subst hsz
  have hD := hD0.self (sz := s.heap.size)
  generalize hAe : va_A (wd3 cI cJ cP h ad ad0 ad1 I R CI CJ CR CG EI ER Eq En V) s.heap.size = A at hD ⊢
  have hA : ∀ q : Nat, s.heap.size ≤ q → A q := fun q h => by rw [← hAe]; exact Or.inr h
  have hS : va_S A s.heap s.heap [] := va_S.rf
  have hZ : zX3_worthOfChoice post I R CI CJ CR CG EI ER Eq En V
      (fun (x1 : Int32) (x2 : Int32) => ∀ (H : Heap) (locs : List Loc) (ls : Array Slot), va_P (dC, dI) vwCl (wd3 cI cJ cP h ad ad0 ad1 I R CI CJ CR CG EI ER Eq En V) H → va_D A (wd3 cI cJ cP h ad ad0 ad1 I R CI CJ CR CG EI ER Eq En V) → va_S A s.heap H locs → lv_has ls 3 [(0, .ref h), (1, .int x1), (2, .int x2)] → W p l e (headSpec wsX3_worthOfChoice ({ frames := 2, cells := 0, slots := 0, locals := 43 } : Room)).room s m ([.ref h] : List Value).toArray below meth c H locs 0 0 (MQ below (va_Qi (fun r (_ : Unit) => post r ) (wAt (dC, dI) vwCl [(cI, .int), (cJ, .long), (cP, .object "YearBook$Picture")] A (fun _ : Unit => wd3 cI cJ cP h ad ad0 ad1 I R CI CJ CR CG EI ER Eq En V)) A) ([.ref h] : List Value).toArray s 0 0 A) (F0 m 4 ls [])) := by
    unfold zX3_worthOfChoice
    intro x1 x2 hq H locs ls hP hD hS hl
    refine lv_iload_n hx hb dX3_worthOfChoice_4 rfl (lv_at hl 2 rfl) ?_
    refine lv_aload_n hx hb dX3_worthOfChoice_5 rfl (lv_at hl 0 rfl) ?_
    refine va_get (D := (dC, dI)) (ci := 3) (v := .int (I 4)) (C := RX3) (T := TX3) (N := 9) hx hb hts nX3_worthOfChoice_X3 hown hK hP 0 rfl rfl 4 (by decide) (hts _ mX3_worthOfChoice_f51) (fun _ h9 => h9) rfl dX3_worthOfChoice_6 ?_
    refine lv_icmp_ge (tgt := 34) hx hb dX3_worthOfChoice_9 (by decide) (fun hc => ?_) (fun hc => ?_)
    · have hq := hq.1 hc
      refine lv_iload_n hx hb dX3_worthOfChoice_34 rfl (lv_at hl 1 rfl) ?_
      exact w_iret (post := fun r (_ : Unit) => post r ) (wf := fun _ : Unit => wd3 cI cJ cP h ad ad0 ad1 I R CI CJ CR CG EI ER Eq En V) (u := ()) hx hb hr hK hP hD hS hq dX3_worthOfChoice_35 hlocks
    · have hq := hq.2 hc
      refine lv_aload_n hx hb dX3_worthOfChoice_12 rfl (lv_at hl 0 rfl) ?_
      refine lv_iload_n hx hb dX3_worthOfChoice_13 rfl (lv_at hl 2 rfl) ?_
      obtain ⟨Pc_1, hc, hq⟩ := hq
      refine w_calli (wf := fun _ : Unit => wd3 cI cJ cP h ad ad0 ad1 I R CI CJ CR CG EI ER Eq En V) (va_runV (As := [.int x2]) (rest := []) ⟨hx, hb, hml, hown, hts⟩ (tX3_isChosen l dC dI cI cJ cP h ad ad0 ad1 _ Pc_1 x2 I R CI CJ CR CG EI ER Eq En V hc) (cwV 1 hts gX3_worthOfChoice_X3_isChosen rfl rfl rfl (by decide +kernel) ⟨Nat.le_of_ble_eq_true rfl, Nat.le_of_ble_eq_true rfl⟩) (wPreVN hn hK hP hD (ci := 3) (q0 := 0) rfl rfl) rfl rfl hl.1 rfl (lv_room (Nat.le_of_ble_eq_true rfl)) dX3_worthOfChoice_14 ⟨Nat.le_of_ble_eq_true rfl, Nat.le_of_ble_eq_true rfl⟩) hD hS hA (fun rc_1 u H locs hp hP hD hS => ?_)
      have hq := hq rc_1 hp
      have hP : va_P (dC, dI) vwCl (wd3 cI cJ cP h ad ad0 ad1 I R CI CJ CR CG EI ER Eq En V) H := hP
      have hD : va_D A (wd3 cI cJ cP h ad ad0 ad1 I R CI CJ CR CG EI ER Eq En V) := hD
      refine lv_if_eq (tgt := 28) hx hb dX3_worthOfChoice_17 (by decide) (fun hc => ?_) (fun hc => ?_)
      · have hq := hq.1 hc
        refine lv_iinc (v := x2 + (1 : Int32)) (lv' := [(2, .int (x2 + (1 : Int32))), (0, .ref h), (1, .int x1)]) hx hb dX3_worthOfChoice_28 hl (k := 2) rfl rfl (by decide) rfl (fun ls hl => ?_)
        refine lv_goto (tgt := 4) hx hb dX3_worthOfChoice_31 (by decide) ?_
        exact hq _ _ ls hP hD hS (lv_sub hl [1, 2, 0] rfl)
      · have hq := hq.2 hc
        refine lv_iload_n hx hb dX3_worthOfChoice_20 rfl (lv_at hl 1 rfl) ?_
        refine lv_aload_n hx hb dX3_worthOfChoice_21 rfl (lv_at hl 0 rfl) ?_
        refine lv_iload_n hx hb dX3_worthOfChoice_22 rfl (lv_at hl 2 rfl) ?_
        obtain ⟨Pc_2, hc, hq⟩ := hq
        refine w_calli (wf := fun _ : Unit => wd3 cI cJ cP h ad ad0 ad1 I R CI CJ CR CG EI ER Eq En V) (va_runV (As := [.int x2]) (rest := [.int x1]) ⟨hx, hb, hml, hown, hts⟩ (tX3_worthOf l dC dI cI cJ cP h ad ad0 ad1 _ Pc_2 x2 I R CI CJ CR CG EI ER Eq En V hc) (cwV 1 hts gX3_worthOfChoice_X3_worthOf rfl rfl rfl (by decide +kernel) ⟨Nat.le_of_ble_eq_true rfl, Nat.le_of_ble_eq_true rfl⟩) (wPreVN hn hK hP hD (ci := 3) (q0 := 0) rfl rfl) rfl rfl hl.1 rfl (lv_room (Nat.le_of_ble_eq_true rfl)) dX3_worthOfChoice_23 ⟨Nat.le_of_ble_eq_true rfl, Nat.le_of_ble_eq_true rfl⟩) hD hS hA (fun rc_2 u H locs hp hP hD hS => ?_)
        have hq := hq rc_2 hp
        have hP : va_P (dC, dI) vwCl (wd3 cI cJ cP h ad ad0 ad1 I R CI CJ CR CG EI ER Eq En V) H := hP
        have hD : va_D A (wd3 cI cJ cP h ad ad0 ad1 I R CI CJ CR CG EI ER Eq En V) := hD
        refine lv_iadd hx hb dX3_worthOfChoice_26 ?_
        refine lv_topi (fun x1_3 ex1_3 => ?_)
        have hq := hq x1_3 ex1_3
        refine lv_istore_n (lv' := [(1, .int x1_3), (0, .ref h), (2, .int x2)]) hx hb dX3_worthOfChoice_27 rfl hl (by decide) rfl (fun ls hl => ?_)
        refine lv_iinc (v := x2 + (1 : Int32)) (lv' := [(2, .int (x2 + (1 : Int32))), (1, .int x1_3), (0, .ref h)]) hx hb dX3_worthOfChoice_28 hl (k := 2) rfl rfl (by decide) rfl (fun ls hl => ?_)
        refine lv_goto (tgt := 4) hx hb dX3_worthOfChoice_31 (by decide) ?_
        exact hq _ _ ls hP hD hS (lv_sub hl [2, 1, 0] rfl)
  have hl := lv_entry ([.ref h]) (n := 3) (Nat.le_of_ble_eq_true rfl)
  rw [lg_entry_eq]
  generalize (lg_sl ([.ref h]) ++ List.replicate (3 - (lg_sl ([.ref h])).length) Slot.unset).toArray = ls at hl ⊢
  have hl : lv_has ls 3 [(0, .ref h)] := hl
  refine lv_iconst (v := (0 : Int32)) hx hb dX3_worthOfChoice_0 (by decide) ?_
  refine lv_istore_n (lv' := [(1, .int (0 : Int32)), (0, .ref h)]) hx hb dX3_worthOfChoice_1 rfl hl (by decide) rfl (fun ls hl => ?_)
  refine lv_iconst (v := (0 : Int32)) hx hb dX3_worthOfChoice_2 (by decide) ?_
  refine lv_istore_n (lv' := [(2, .int (0 : Int32)), (1, .int (0 : Int32)), (0, .ref h)]) hx hb dX3_worthOfChoice_3 rfl hl (by decide) rfl (fun ls hl => ?_)
  exact hq _ hZ _ _ ls hP hD hS (lv_sub hl [2, 1, 0] rfl)
def qX3_best (post : Int32 → (Nat → Int32) → (Nat → Nat → Int32) → (Nat → Int32) → (Nat → Int64) → (Nat → Nat → Int32) → (Nat → Nat → Int64) → (Nat → Int32) → (Nat → Nat → Int32) → Nat → Nat → vS → Prop) (I : Nat → Int32) (R : Nat → Nat → Int32) (CI : Nat → Int32) (CJ : Nat → Int64) (CR : Nat → Nat → Int32) (CG : Nat → Nat → Int64) (EI : Nat → Int32) (ER : Nat → Nat → Int32) (Eq : Nat) (En : Nat) (V : vS) : Prop := ∃ Pc_1 : (Nat → Int32) → (Nat → Nat → Int32) → (Nat → Int32) → (Nat → Int64) → (Nat → Nat → Int32) → (Nat → Nat → Int64) → (Nat → Int32) → (Nat → Nat → Int32) → Nat → Nat → vS → Prop, qX3_offerPictures Pc_1 (0 : Int64) I R CI CJ CR CG EI ER Eq En V ∧ (∀ (Ic_1 : Nat → Int32) (Rc_1 : Nat → Nat → Int32) (CIc_1 : Nat → Int32) (CJc_1 : Nat → Int64) (CRc_1 : Nat → Nat → Int32) (CGc_1 : Nat → Nat → Int64) (EIc_1 : Nat → Int32) (ERc_1 : Nat → Nat → Int32) (Eqc_1 : Nat) (Enc_1 : Nat) (Vc_1 : vS), Pc_1 Ic_1 Rc_1 CIc_1 CJc_1 CRc_1 CGc_1 EIc_1 ERc_1 Eqc_1 Enc_1 Vc_1 → (∃ Pc_2 : Int32 → (Nat → Int32) → (Nat → Int64) → (Nat → Nat → Int32) → (Nat → Nat → Int64) → Prop, qX0_findBest Pc_2  CIc_1 CJc_1 CRc_1 CGc_1 ∧ (∀ (rc_2 : Int32) (CIc_2 : Nat → Int32) (CJc_2 : Nat → Int64) (CRc_2 : Nat → Nat → Int32) (CGc_2 : Nat → Nat → Int64), Pc_2 rc_2 CIc_2 CJc_2 CRc_2 CGc_2 → (((¬ rc_2 = 0) → (∃ Pc_3 : (Nat → Int32) → (Nat → Nat → Int32) → (Nat → Int32) → (Nat → Int64) → (Nat → Nat → Int32) → (Nat → Nat → Int64) → (Nat → Int32) → (Nat → Nat → Int32) → Nat → Nat → vS → Prop, qX3_decide Pc_3 (CIc_2 12) Ic_1 Rc_1 CIc_2 CJc_2 CRc_2 CGc_2 EIc_1 ERc_1 Eqc_1 Enc_1 Vc_1 ∧ (∀ (Ic_3 : Nat → Int32) (Rc_3 : Nat → Nat → Int32) (CIc_3 : Nat → Int32) (CJc_3 : Nat → Int64) (CRc_3 : Nat → Nat → Int32) (CGc_3 : Nat → Nat → Int64) (EIc_3 : Nat → Int32) (ERc_3 : Nat → Nat → Int32) (Eqc_3 : Nat) (Enc_3 : Nat) (Vc_3 : vS), Pc_3 Ic_3 Rc_3 CIc_3 CJc_3 CRc_3 CGc_3 EIc_3 ERc_3 Eqc_3 Enc_3 Vc_3 → (∃ Pc_4 : Int32 → Prop, qX3_worthOfChoice Pc_4  Ic_3 Rc_3 CIc_3 CJc_3 CRc_3 CGc_3 EIc_3 ERc_3 Eqc_3 Enc_3 Vc_3 ∧ (∀ (rc_4 : Int32), Pc_4 rc_4 → (post rc_4 Ic_3 Rc_3 CIc_3 CJc_3 CRc_3 CGc_3 EIc_3 ERc_3 Eqc_3 Enc_3 Vc_3)))))) ∧ ((rc_2 = 0) → (post (-1 : Int32) Ic_1 Rc_1 CIc_2 CJc_2 CRc_2 CGc_2 EIc_1 ERc_1 Eqc_1 Enc_1 Vc_1))))))
theorem mX3_best_f28 : Cond.fieldLink RX3 28 "YearBook" "chooser" "LYearBook$Chooser;" ∈ wsX3_best := by decide +kernel
theorem nX3_best_X3 : ∀ w ∈ u_ws RX3 TX3 9, w ∈ wsX3_best := by decide +kernel
theorem nX3_best_X0 : ∀ w ∈ u_ws RX0 TX0 14, w ∈ wsX3_best := by decide +kernel
set_option maxHeartbeats 4000000 in
set_option maxRecDepth 100000 in
theorem tX3_best (l : Launch) (dC : Nat → ClassId) (dI : Nat → Nat → Nat) (cI : ClassId) (cJ : ClassId) (cP : ClassId) (h : Nat) (ad ad0 ad1 : Nat → Nat)  (sz : Nat) (post : Int32 → (Nat → Int32) → (Nat → Nat → Int32) → (Nat → Int32) → (Nat → Int64) → (Nat → Nat → Int32) → (Nat → Nat → Int64) → (Nat → Int32) → (Nat → Nat → Int32) → Nat → Nat → vS → Prop) (I : Nat → Int32) (R : Nat → Nat → Int32) (CI : Nat → Int32) (CJ : Nat → Int64) (CR : Nat → Nat → Int32) (CG : Nat → Nat → Int64) (EI : Nat → Int32) (ER : Nat → Nat → Int32) (Eq : Nat) (En : Nat) (V : vS) (hq : qX3_best post I R CI CJ CR CG EI ER Eq En V) : Met l yX3_best wsX3_best ({ frames := 24, cells := 0, slots := 0, locals := 682 } : Room) (va_Pc [.ref h] (wPreN (dC, dI) vwCl [(cI, .int), (cJ, .long), (cP, .object "YearBook$Picture")] (wd3 cI cJ cP h ad ad0 ad1 I R CI CJ CR CG EI ER Eq En V) sz)) (va_Qi (fun r (u : (Nat → Int32) × (Nat → Nat → Int32) × (Nat → Int32) × (Nat → Int64) × (Nat → Nat → Int32) × (Nat → Nat → Int64) × (Nat → Int32) × (Nat → Nat → Int32) × (Nat) × (Nat) × (vS)) => post r u.1 u.2.1 u.2.2.1 u.2.2.2.1 u.2.2.2.2.1 u.2.2.2.2.2.1 u.2.2.2.2.2.2.1 u.2.2.2.2.2.2.2.1 u.2.2.2.2.2.2.2.2.1 u.2.2.2.2.2.2.2.2.2.1 u.2.2.2.2.2.2.2.2.2.2) (wAt (dC, dI) vwCl [(cI, .int), (cJ, .long), (cP, .object "YearBook$Picture")] (va_A (wd3 cI cJ cP h ad ad0 ad1 I R CI CJ CR CG EI ER Eq En V) sz) (fun u : (Nat → Int32) × (Nat → Nat → Int32) × (Nat → Int32) × (Nat → Int64) × (Nat → Nat → Int32) × (Nat → Nat → Int64) × (Nat → Int32) × (Nat → Nat → Int32) × (Nat) × (Nat) × (vS) => wd3 cI cJ cP h ad ad0 ad1 u.1 u.2.1 u.2.2.1 u.2.2.2.1 u.2.2.2.2.1 u.2.2.2.2.2.1 u.2.2.2.2.2.2.1 u.2.2.2.2.2.2.2.1 u.2.2.2.2.2.2.2.2.1 u.2.2.2.2.2.2.2.2.2.1 u.2.2.2.2.2.2.2.2.2.2)) (va_A (wd3 cI cJ cP h ad ad0 ad1 I R CI CJ CR CG EI ER Eq En V) sz)) 0 0 (va_A (wd3 cI cJ cP h ad ad0 ad1 I R CI CJ CR CG EI ER Eq En V) sz) := by
  unfold qX3_best at hq
  refine Met.ofW (cc := cX3_best) (maxL := 1) (ret := (some .int)) (by decide) rfl ?_
  intro p e s m args below meth c s₁ B hml hv
  obtain ⟨rfl, ⟨hsz, hP, hK, hD0⟩, hn⟩ := hv
  have hx := B.exec
  have hb := B.bytes
  have hr := B.returns
  have hts := atoms_spec (ws := wsX3_best) B.pre
  have hown : s.vm.findClass RX3 = some m.cls := findClass_of_methodNamed B.named
  have hlocks := B.notSynchronized
  subst hsz
  have hD := hD0.self (sz := s.heap.size)
  generalize hAe : va_A (wd3 cI cJ cP h ad ad0 ad1 I R CI CJ CR CG EI ER Eq En V) s.heap.size = A at hD ⊢
  have hA : ∀ q : Nat, s.heap.size ≤ q → A q := fun q h => by rw [← hAe]; exact Or.inr h
  have hS : va_S A s.heap s.heap [] := va_S.rf
  have hl := lv_entry ([.ref h]) (n := 1) (Nat.le_of_ble_eq_true rfl)
  rw [lg_entry_eq]
  generalize (lg_sl ([.ref h]) ++ List.replicate (1 - (lg_sl ([.ref h])).length) Slot.unset).toArray = ls at hl ⊢
  have hl : lv_has ls 1 [(0, .ref h)] := hl
  refine lv_aload_n hx hb dX3_best_0 rfl (lv_at hl 0 rfl) ?_
  refine lv_lconst (v := (0 : Int64)) hx hb dX3_best_1 (by decide) ?_
  obtain ⟨Pc_1, hc, hq⟩ := hq
  refine w_callv (wf := fun u : (Nat → Int32) × (Nat → Nat → Int32) × (Nat → Int32) × (Nat → Int64) × (Nat → Nat → Int32) × (Nat → Nat → Int64) × (Nat → Int32) × (Nat → Nat → Int32) × (Nat) × (Nat) × (vS) => wd3 cI cJ cP h ad ad0 ad1 u.1 u.2.1 u.2.2.1 u.2.2.2.1 u.2.2.2.2.1 u.2.2.2.2.2.1 u.2.2.2.2.2.2.1 u.2.2.2.2.2.2.2.1 u.2.2.2.2.2.2.2.2.1 u.2.2.2.2.2.2.2.2.2.1 u.2.2.2.2.2.2.2.2.2.2) (va_runV (As := [.long (0 : Int64)]) (rest := []) ⟨hx, hb, hml, hown, hts⟩ (tX3_offerPictures l dC dI cI cJ cP h ad ad0 ad1 _ Pc_1 (0 : Int64) I R CI CJ CR CG EI ER Eq En V hc) (cwV 1 hts gX3_best_X3_offerPictures rfl rfl rfl (by decide +kernel) ⟨Nat.le_of_ble_eq_true rfl, Nat.le_of_ble_eq_true rfl⟩) (wPreVN hn hK hP hD (ci := 3) (q0 := 0) rfl rfl) rfl rfl hl.1 rfl (lv_room (Nat.le_of_ble_eq_true rfl)) dX3_best_2 ⟨Nat.le_of_ble_eq_true rfl, Nat.le_of_ble_eq_true rfl⟩) hD hS hA (fun u H locs hp hP hD hS => ?_)
  obtain ⟨Ic_1, Rc_1, CIc_1, CJc_1, CRc_1, CGc_1, EIc_1, ERc_1, Eqc_1, Enc_1, Vc_1⟩ := u
  have hq := hq Ic_1 Rc_1 CIc_1 CJc_1 CRc_1 CGc_1 EIc_1 ERc_1 Eqc_1 Enc_1 Vc_1 hp
  have hP : va_P (dC, dI) vwCl (wd3 cI cJ cP h ad ad0 ad1 Ic_1 Rc_1 CIc_1 CJc_1 CRc_1 CGc_1 EIc_1 ERc_1 Eqc_1 Enc_1 Vc_1) H := hP
  have hD : va_D A (wd3 cI cJ cP h ad ad0 ad1 Ic_1 Rc_1 CIc_1 CJc_1 CRc_1 CGc_1 EIc_1 ERc_1 Eqc_1 Enc_1 Vc_1) := hD
  refine lv_aload_n hx hb dX3_best_5 rfl (lv_at hl 0 rfl) ?_
  refine va_get (D := (dC, dI)) (ci := 3) (v := .ref (ad 7)) (C := RX3) (T := TX3) (N := 9) hx hb hts nX3_best_X3 hown hK hP 0 rfl rfl 7 (by decide) (hts _ mX3_best_f28) (fun _ h9 => h9) rfl dX3_best_6 ?_
  obtain ⟨Pc_2, hc, hq⟩ := hq
  refine w_calli (wf := fun u : (Nat → Int32) × (Nat → Int64) × (Nat → Nat → Int32) × (Nat → Nat → Int64) => wd3 cI cJ cP h ad ad0 ad1 Ic_1 Rc_1 u.1 u.2.1 u.2.2.1 u.2.2.2 EIc_1 ERc_1 Eqc_1 Enc_1 Vc_1) (va_runV (As := []) (rest := []) ⟨hx, hb, hml, hown, hts⟩ (Met_frame_i (w' := fun u : (Nat → Int32) × (Nat → Int64) × (Nat → Nat → Int32) × (Nat → Nat → Int64) => wd3 cI cJ cP h ad ad0 ad1 Ic_1 Rc_1 u.1 u.2.1 u.2.2.1 u.2.2.2 EIc_1 ERc_1 Eqc_1 Enc_1 Vc_1) (tys2 := [(cI, .int), (cJ, .long), (cP, .object "YearBook$Picture")]) (tX0_findBest l dC dI cI cJ (ad 7) ad0 _ Pc_2  CIc_1 CJc_1 CRc_1 CGc_1 hc) (p3c cI cJ cP h ad ad0 ad1 Ic_1 Rc_1 CIc_1 CJc_1 CRc_1 CGc_1 EIc_1 ERc_1 Eqc_1 Enc_1 Vc_1) (fun u => (p3c cI cJ cP h ad ad0 ad1 Ic_1 Rc_1 u.1 u.2.1 u.2.2.1 u.2.2.2 EIc_1 ERc_1 Eqc_1 Enc_1 Vc_1).symm) (fun U hU => hU.sub [0, 1] rfl)) (cwV 0 hts gX3_best_X0_findBest rfl rfl rfl (by decide +kernel) ⟨Nat.le_of_ble_eq_true rfl, Nat.le_of_ble_eq_true rfl⟩) (wPreV hK hP hD (ci := 0) (q0 := 5) rfl rfl) rfl rfl hl.1 rfl (lv_room (Nat.le_of_ble_eq_true rfl)) dX3_best_9 ⟨Nat.le_of_ble_eq_true rfl, Nat.le_of_ble_eq_true rfl⟩) hD hS hA (fun rc_2 u H locs hp hP hD hS => ?_)
  obtain ⟨CIc_2, CJc_2, CRc_2, CGc_2⟩ := u
  have hq := hq rc_2 CIc_2 CJc_2 CRc_2 CGc_2 hp
  have hP : va_P (dC, dI) vwCl (wd3 cI cJ cP h ad ad0 ad1 Ic_1 Rc_1 CIc_2 CJc_2 CRc_2 CGc_2 EIc_1 ERc_1 Eqc_1 Enc_1 Vc_1) H := hP
  have hD : va_D A (wd3 cI cJ cP h ad ad0 ad1 Ic_1 Rc_1 CIc_2 CJc_2 CRc_2 CGc_2 EIc_1 ERc_1 Eqc_1 Enc_1 Vc_1) := hD
  refine lv_if_ne (tgt := 17) hx hb dX3_best_12 (by decide) (fun hc => ?_) (fun hc => ?_)
  · have hq := hq.1 hc
    refine lv_aload_n hx hb dX3_best_17 rfl (lv_at hl 0 rfl) ?_
    refine lv_aload_n hx hb dX3_best_18 rfl (lv_at hl 0 rfl) ?_
    refine va_get (D := (dC, dI)) (ci := 3) (v := .ref (ad 7)) (C := RX3) (T := TX3) (N := 9) hx hb hts nX3_best_X3 hown hK hP 0 rfl rfl 7 (by decide) (hts _ mX3_best_f28) (fun _ h9 => h9) rfl dX3_best_19 ?_
    refine va_getN (D := (dC, dI)) (ci := 0) (v := .int (CIc_2 12)) (C := RX0) (T := TX0) (N := 14) (host := "YearBook") hx hb hts nX3_best_X0 hown hK hP 5 rfl rfl 12 (by decide) (va_Nw.use rfl hn.1) (fun _ h9 => h9) rfl dX3_best_22 ?_
    obtain ⟨Pc_3, hc, hq⟩ := hq
    refine w_callv (wf := fun u : (Nat → Int32) × (Nat → Nat → Int32) × (Nat → Int32) × (Nat → Int64) × (Nat → Nat → Int32) × (Nat → Nat → Int64) × (Nat → Int32) × (Nat → Nat → Int32) × (Nat) × (Nat) × (vS) => wd3 cI cJ cP h ad ad0 ad1 u.1 u.2.1 u.2.2.1 u.2.2.2.1 u.2.2.2.2.1 u.2.2.2.2.2.1 u.2.2.2.2.2.2.1 u.2.2.2.2.2.2.2.1 u.2.2.2.2.2.2.2.2.1 u.2.2.2.2.2.2.2.2.2.1 u.2.2.2.2.2.2.2.2.2.2) (va_runV (As := [.int (CIc_2 12)]) (rest := []) ⟨hx, hb, hml, hown, hts⟩ (tX3_decide l dC dI cI cJ cP h ad ad0 ad1 _ Pc_3 (CIc_2 12) Ic_1 Rc_1 CIc_2 CJc_2 CRc_2 CGc_2 EIc_1 ERc_1 Eqc_1 Enc_1 Vc_1 hc) (cwV 1 hts gX3_best_X3_decide rfl rfl rfl (by decide +kernel) ⟨Nat.le_of_ble_eq_true rfl, Nat.le_of_ble_eq_true rfl⟩) (wPreVN hn hK hP hD (ci := 3) (q0 := 0) rfl rfl) rfl rfl hl.1 rfl (lv_room (Nat.le_of_ble_eq_true rfl)) dX3_best_25 ⟨Nat.le_of_ble_eq_true rfl, Nat.le_of_ble_eq_true rfl⟩) hD hS hA (fun u H locs hp hP hD hS => ?_)
    obtain ⟨Ic_3, Rc_3, CIc_3, CJc_3, CRc_3, CGc_3, EIc_3, ERc_3, Eqc_3, Enc_3, Vc_3⟩ := u
    have hq := hq Ic_3 Rc_3 CIc_3 CJc_3 CRc_3 CGc_3 EIc_3 ERc_3 Eqc_3 Enc_3 Vc_3 hp
    have hP : va_P (dC, dI) vwCl (wd3 cI cJ cP h ad ad0 ad1 Ic_3 Rc_3 CIc_3 CJc_3 CRc_3 CGc_3 EIc_3 ERc_3 Eqc_3 Enc_3 Vc_3) H := hP
    have hD : va_D A (wd3 cI cJ cP h ad ad0 ad1 Ic_3 Rc_3 CIc_3 CJc_3 CRc_3 CGc_3 EIc_3 ERc_3 Eqc_3 Enc_3 Vc_3) := hD
    refine lv_aload_n hx hb dX3_best_28 rfl (lv_at hl 0 rfl) ?_
    obtain ⟨Pc_4, hc, hq⟩ := hq
    refine w_calli (wf := fun _ : Unit => wd3 cI cJ cP h ad ad0 ad1 Ic_3 Rc_3 CIc_3 CJc_3 CRc_3 CGc_3 EIc_3 ERc_3 Eqc_3 Enc_3 Vc_3) (va_runV (As := []) (rest := []) ⟨hx, hb, hml, hown, hts⟩ (tX3_worthOfChoice l dC dI cI cJ cP h ad ad0 ad1 _ Pc_4  Ic_3 Rc_3 CIc_3 CJc_3 CRc_3 CGc_3 EIc_3 ERc_3 Eqc_3 Enc_3 Vc_3 hc) (cwV 0 hts gX3_best_X3_worthOfChoice rfl rfl rfl (by decide +kernel) ⟨Nat.le_of_ble_eq_true rfl, Nat.le_of_ble_eq_true rfl⟩) (wPreVN hn hK hP hD (ci := 3) (q0 := 0) rfl rfl) rfl rfl hl.1 rfl (lv_room (Nat.le_of_ble_eq_true rfl)) dX3_best_29 ⟨Nat.le_of_ble_eq_true rfl, Nat.le_of_ble_eq_true rfl⟩) hD hS hA (fun rc_4 u H locs hp hP hD hS => ?_)
    have hq := hq rc_4 hp
    have hP : va_P (dC, dI) vwCl (wd3 cI cJ cP h ad ad0 ad1 Ic_3 Rc_3 CIc_3 CJc_3 CRc_3 CGc_3 EIc_3 ERc_3 Eqc_3 Enc_3 Vc_3) H := hP
    have hD : va_D A (wd3 cI cJ cP h ad ad0 ad1 Ic_3 Rc_3 CIc_3 CJc_3 CRc_3 CGc_3 EIc_3 ERc_3 Eqc_3 Enc_3 Vc_3) := hD
    exact w_iret (post := fun r (u : (Nat → Int32) × (Nat → Nat → Int32) × (Nat → Int32) × (Nat → Int64) × (Nat → Nat → Int32) × (Nat → Nat → Int64) × (Nat → Int32) × (Nat → Nat → Int32) × (Nat) × (Nat) × (vS)) => post r u.1 u.2.1 u.2.2.1 u.2.2.2.1 u.2.2.2.2.1 u.2.2.2.2.2.1 u.2.2.2.2.2.2.1 u.2.2.2.2.2.2.2.1 u.2.2.2.2.2.2.2.2.1 u.2.2.2.2.2.2.2.2.2.1 u.2.2.2.2.2.2.2.2.2.2) (wf := fun u : (Nat → Int32) × (Nat → Nat → Int32) × (Nat → Int32) × (Nat → Int64) × (Nat → Nat → Int32) × (Nat → Nat → Int64) × (Nat → Int32) × (Nat → Nat → Int32) × (Nat) × (Nat) × (vS) => wd3 cI cJ cP h ad ad0 ad1 u.1 u.2.1 u.2.2.1 u.2.2.2.1 u.2.2.2.2.1 u.2.2.2.2.2.1 u.2.2.2.2.2.2.1 u.2.2.2.2.2.2.2.1 u.2.2.2.2.2.2.2.2.1 u.2.2.2.2.2.2.2.2.2.1 u.2.2.2.2.2.2.2.2.2.2) (u := (Ic_3, Rc_3, CIc_3, CJc_3, CRc_3, CGc_3, EIc_3, ERc_3, Eqc_3, Enc_3, Vc_3)) hx hb hr hK hP hD hS hq dX3_best_32 hlocks
  · have hq := hq.2 hc
    refine lv_iconst (v := (-1 : Int32)) hx hb dX3_best_15 (by decide) ?_
    exact w_iret (post := fun r (u : (Nat → Int32) × (Nat → Nat → Int32) × (Nat → Int32) × (Nat → Int64) × (Nat → Nat → Int32) × (Nat → Nat → Int64) × (Nat → Int32) × (Nat → Nat → Int32) × (Nat) × (Nat) × (vS)) => post r u.1 u.2.1 u.2.2.1 u.2.2.2.1 u.2.2.2.2.1 u.2.2.2.2.2.1 u.2.2.2.2.2.2.1 u.2.2.2.2.2.2.2.1 u.2.2.2.2.2.2.2.2.1 u.2.2.2.2.2.2.2.2.2.1 u.2.2.2.2.2.2.2.2.2.2) (wf := fun u : (Nat → Int32) × (Nat → Nat → Int32) × (Nat → Int32) × (Nat → Int64) × (Nat → Nat → Int32) × (Nat → Nat → Int64) × (Nat → Int32) × (Nat → Nat → Int32) × (Nat) × (Nat) × (vS) => wd3 cI cJ cP h ad ad0 ad1 u.1 u.2.1 u.2.2.1 u.2.2.2.1 u.2.2.2.2.1 u.2.2.2.2.2.1 u.2.2.2.2.2.2.1 u.2.2.2.2.2.2.2.1 u.2.2.2.2.2.2.2.2.1 u.2.2.2.2.2.2.2.2.2.1 u.2.2.2.2.2.2.2.2.2.2) (u := (Ic_1, Rc_1, CIc_2, CJc_2, CRc_2, CGc_2, EIc_1, ERc_1, Eqc_1, Enc_1, Vc_1)) hx hb hr hK hP hD hS hq dX3_best_16 hlocks
def qX3_within (post : Int32 → Prop) (p1 : Int32) (p2 : Int32) (p3 : Int32) : Prop := ((p1 < p2) → (post (0 : Int32))) ∧ ((¬ p1 < p2) → (((p3 < p1) → (post (0 : Int32))) ∧ ((¬ p3 < p1) → (post (1 : Int32)))))
set_option maxHeartbeats 4000000 in
set_option maxRecDepth 100000 in
theorem tX3_within (l : Launch) (post : Int32 → Prop) (p1 : Int32) (p2 : Int32) (p3 : Int32) (hq : qX3_within post p1 p2 p3) : Met l yX3_within wsX3_within ({ frames := 0, cells := 0, slots := 0, locals := 0 } : Room) (fun v _ => v = ([.int p1, .int p2, .int p3] : List Value).toArray) (vp_Si post) 0 0 (fun _ => False) := by
  unfold qX3_within at hq
  refine Met.ofW (cc := cX3_within) (maxL := 3) (ret := (some .boolean)) (by decide) rfl ?_
  intro p e s m args below meth c s₁ B hml hv
  obtain rfl := hv
  have hx := B.exec
  have hb := B.bytes
  have hr := B.returns
  have hts := atoms_spec (ws := wsX3_within) B.pre
  have hown : s.vm.findClass RX3 = some m.cls := findClass_of_methodNamed B.named
  have hlocks := B.notSynchronized
  have hl := lv_entry ([.int p1, .int p2, .int p3]) (n := 3) (Nat.le_of_ble_eq_true rfl)
  rw [lg_entry_eq]
  generalize (lg_sl ([.int p1, .int p2, .int p3]) ++ List.replicate (3 - (lg_sl ([.int p1, .int p2, .int p3])).length) Slot.unset).toArray = ls at hl ⊢
  have hl : lv_has ls 3 [(0, .int p1), (1, .int p2), (2, .int p3)] := hl
  refine lv_iload_n hx hb dX3_within_0 rfl (lv_at hl 0 rfl) ?_
  refine lv_iload_n hx hb dX3_within_1 rfl (lv_at hl 1 rfl) ?_
  refine lv_icmp_lt (tgt := 14) hx hb dX3_within_2 (by decide) (fun hc => ?_) (fun hc => ?_)
  · have hq := hq.1 hc
    refine lv_iconst (v := (0 : Int32)) hx hb dX3_within_14 (by decide) ?_
    exact s_zret hx hb hr rfl hq dX3_within_15 hlocks
  · have hq := hq.2 hc
    refine lv_iload_n hx hb dX3_within_5 rfl (lv_at hl 0 rfl) ?_
    refine lv_iload_n hx hb dX3_within_6 rfl (lv_at hl 2 rfl) ?_
    refine lv_icmp_gt (tgt := 14) hx hb dX3_within_7 (by decide) (fun hc => ?_) (fun hc => ?_)
    · have hq := hq.1 hc
      refine lv_iconst (v := (0 : Int32)) hx hb dX3_within_14 (by decide) ?_
      exact s_zret hx hb hr rfl hq dX3_within_15 hlocks
    · have hq := hq.2 hc
      refine lv_iconst (v := (1 : Int32)) hx hb dX3_within_10 (by decide) ?_
      refine lv_goto (tgt := 15) hx hb dX3_within_11 (by decide) ?_
      exact s_zret hx hb hr rfl hq dX3_within_15 hlocks
def qX3_child (post : Int32 → (Nat → Int32) → (Nat → Nat → Int32) → (Nat → Int32) → (Nat → Int64) → (Nat → Nat → Int32) → (Nat → Nat → Int64) → (Nat → Int32) → (Nat → Nat → Int32) → Nat → Nat → vS → Prop) (p1 : Int32) (I : Nat → Int32) (R : Nat → Nat → Int32) (CI : Nat → Int32) (CJ : Nat → Int64) (CR : Nat → Nat → Int32) (CG : Nat → Nat → Int64) (EI : Nat → Int32) (ER : Nat → Nat → Int32) (Eq : Nat) (En : Nat) (V : vS) : Prop := ∃ Pc_1 : Int32 → Prop, qX3_within Pc_1 p1 (0 : Int32) (9 : Int32) ∧ (∀ (rc_1 : Int32), Pc_1 rc_1 → (((rc_1 = 0) → (post (-1 : Int32) I R CI CJ CR CG EI ER Eq En V)) ∧ ((¬ rc_1 = 0) → ((((I 2) < (16 : Int32)) → (vp_in (I 2) 16 ∧ (post (I 2) (va_up I 2 ((I 2) + (1 : Int32))) (va_up (va_up R 0 (upd (R 0) (I 2).toNatClampNeg p1)) 1 (upd (R 1) (I 2).toNatClampNeg (7 : Int32))) CI CJ CR CG EI ER Eq En V))) ∧ ((¬ (I 2) < (16 : Int32)) → (post (-1 : Int32) I R CI CJ CR CG EI ER Eq En V))))))
theorem mX3_child_f43 : Cond.fieldLink RX3 43 "YearBook" "children" "I" ∈ wsX3_child := by decide +kernel
theorem nX3_child_X3 : ∀ w ∈ u_ws RX3 TX3 9, w ∈ wsX3_child := by decide +kernel
theorem mX3_child_f9 : Cond.fieldLink RX3 9 "YearBook" "rooms" "[I" ∈ wsX3_child := by decide +kernel
theorem mX3_child_f13 : Cond.fieldLink RX3 13 "YearBook" "consents" "[I" ∈ wsX3_child := by decide +kernel
set_option maxHeartbeats 4000000 in
set_option maxRecDepth 100000 in
theorem tX3_child (l : Launch) (dC : Nat → ClassId) (dI : Nat → Nat → Nat) (cI : ClassId) (cJ : ClassId) (cP : ClassId) (h : Nat) (ad ad0 ad1 : Nat → Nat)  (sz : Nat) (post : Int32 → (Nat → Int32) → (Nat → Nat → Int32) → (Nat → Int32) → (Nat → Int64) → (Nat → Nat → Int32) → (Nat → Nat → Int64) → (Nat → Int32) → (Nat → Nat → Int32) → Nat → Nat → vS → Prop) (p1 : Int32) (I : Nat → Int32) (R : Nat → Nat → Int32) (CI : Nat → Int32) (CJ : Nat → Int64) (CR : Nat → Nat → Int32) (CG : Nat → Nat → Int64) (EI : Nat → Int32) (ER : Nat → Nat → Int32) (Eq : Nat) (En : Nat) (V : vS) (hq : qX3_child post p1 I R CI CJ CR CG EI ER Eq En V) : Met l yX3_child wsX3_child ({ frames := 1, cells := 0, slots := 0, locals := 22 } : Room) (va_Pc [.ref h, .int p1] (wPreN (dC, dI) vwCl [(cI, .int), (cJ, .long), (cP, .object "YearBook$Picture")] (wd3 cI cJ cP h ad ad0 ad1 I R CI CJ CR CG EI ER Eq En V) sz)) (va_Qi (fun r (u : (Nat → Int32) × (Nat → Nat → Int32) × (Nat → Int32) × (Nat → Int64) × (Nat → Nat → Int32) × (Nat → Nat → Int64) × (Nat → Int32) × (Nat → Nat → Int32) × (Nat) × (Nat) × (vS)) => post r u.1 u.2.1 u.2.2.1 u.2.2.2.1 u.2.2.2.2.1 u.2.2.2.2.2.1 u.2.2.2.2.2.2.1 u.2.2.2.2.2.2.2.1 u.2.2.2.2.2.2.2.2.1 u.2.2.2.2.2.2.2.2.2.1 u.2.2.2.2.2.2.2.2.2.2) (wAt (dC, dI) vwCl [(cI, .int), (cJ, .long), (cP, .object "YearBook$Picture")] (va_A (wd3 cI cJ cP h ad ad0 ad1 I R CI CJ CR CG EI ER Eq En V) sz) (fun u : (Nat → Int32) × (Nat → Nat → Int32) × (Nat → Int32) × (Nat → Int64) × (Nat → Nat → Int32) × (Nat → Nat → Int64) × (Nat → Int32) × (Nat → Nat → Int32) × (Nat) × (Nat) × (vS) => wd3 cI cJ cP h ad ad0 ad1 u.1 u.2.1 u.2.2.1 u.2.2.2.1 u.2.2.2.2.1 u.2.2.2.2.2.1 u.2.2.2.2.2.2.1 u.2.2.2.2.2.2.2.1 u.2.2.2.2.2.2.2.2.1 u.2.2.2.2.2.2.2.2.2.1 u.2.2.2.2.2.2.2.2.2.2)) (va_A (wd3 cI cJ cP h ad ad0 ad1 I R CI CJ CR CG EI ER Eq En V) sz)) 0 0 (va_A (wd3 cI cJ cP h ad ad0 ad1 I R CI CJ CR CG EI ER Eq En V) sz) := by
  unfold qX3_child at hq
  refine Met.ofW (cc := cX3_child) (maxL := 2) (ret := (some .int)) (by decide) rfl ?_
  intro p e s m args below meth c s₁ B hml hv
  obtain ⟨rfl, ⟨hsz, hP, hK, hD0⟩, hn⟩ := hv
  have hx := B.exec
  have hb := B.bytes
  have hr := B.returns
  have hts := atoms_spec (ws := wsX3_child) B.pre
  have hown : s.vm.findClass RX3 = some m.cls := findClass_of_methodNamed B.named
  have hlocks := B.notSynchronized
  subst hsz
  have hD := hD0.self (sz := s.heap.size)
  generalize hAe : va_A (wd3 cI cJ cP h ad ad0 ad1 I R CI CJ CR CG EI ER Eq En V) s.heap.size = A at hD ⊢
  have hA : ∀ q : Nat, s.heap.size ≤ q → A q := fun q h => by rw [← hAe]; exact Or.inr h
  have hS : va_S A s.heap s.heap [] := va_S.rf
  have hl := lv_entry ([.ref h, .int p1]) (n := 2) (Nat.le_of_ble_eq_true rfl)
  rw [lg_entry_eq]
  generalize (lg_sl ([.ref h, .int p1]) ++ List.replicate (2 - (lg_sl ([.ref h, .int p1])).length) Slot.unset).toArray = ls at hl ⊢
  have hl : lv_has ls 2 [(0, .ref h), (1, .int p1)] := hl
  refine lv_iload_n hx hb dX3_child_0 rfl (lv_at hl 1 rfl) ?_
  refine lv_iconst (v := (0 : Int32)) hx hb dX3_child_1 (by decide) ?_
  refine lv_bipush (v := (9 : Int32)) hx hb dX3_child_2 (by decide) ?_
  obtain ⟨Pc_1, hc, hq⟩ := hq
  refine vp_callSi (W.runS (As := [.int p1, .int (0 : Int32), .int (9 : Int32)]) (rest := []) ⟨hx, hb, hml, hown, hts⟩ (tX3_within l Pc_1 p1 (0 : Int32) (9 : Int32) hc) (va_cwS 3 hts gX3_child_X3_within rfl rfl rfl (by decide +kernel) ⟨Nat.le_of_ble_eq_true rfl, Nat.le_of_ble_eq_true rfl⟩) preEq rfl rfl hl.1 rfl (lv_room (Nat.le_of_ble_eq_true rfl)) dX3_child_4 ⟨Nat.le_of_ble_eq_true rfl, Nat.le_of_ble_eq_true rfl⟩) (fun rc_1 hp => ?_)
  have hq := hq rc_1 hp
  refine lv_if_eq (tgt := 19) hx hb dX3_child_7 (by decide) (fun hc => ?_) (fun hc => ?_)
  · have hq := hq.1 hc
    refine lv_iconst (v := (-1 : Int32)) hx hb dX3_child_19 (by decide) ?_
    exact w_iret (post := fun r (u : (Nat → Int32) × (Nat → Nat → Int32) × (Nat → Int32) × (Nat → Int64) × (Nat → Nat → Int32) × (Nat → Nat → Int64) × (Nat → Int32) × (Nat → Nat → Int32) × (Nat) × (Nat) × (vS)) => post r u.1 u.2.1 u.2.2.1 u.2.2.2.1 u.2.2.2.2.1 u.2.2.2.2.2.1 u.2.2.2.2.2.2.1 u.2.2.2.2.2.2.2.1 u.2.2.2.2.2.2.2.2.1 u.2.2.2.2.2.2.2.2.2.1 u.2.2.2.2.2.2.2.2.2.2) (wf := fun u : (Nat → Int32) × (Nat → Nat → Int32) × (Nat → Int32) × (Nat → Int64) × (Nat → Nat → Int32) × (Nat → Nat → Int64) × (Nat → Int32) × (Nat → Nat → Int32) × (Nat) × (Nat) × (vS) => wd3 cI cJ cP h ad ad0 ad1 u.1 u.2.1 u.2.2.1 u.2.2.2.1 u.2.2.2.2.1 u.2.2.2.2.2.1 u.2.2.2.2.2.2.1 u.2.2.2.2.2.2.2.1 u.2.2.2.2.2.2.2.2.1 u.2.2.2.2.2.2.2.2.2.1 u.2.2.2.2.2.2.2.2.2.2) (u := (I, R, CI, CJ, CR, CG, EI, ER, Eq, En, V)) hx hb hr hK hP hD hS hq dX3_child_20 hlocks
  · have hq := hq.2 hc
    refine lv_aload_n hx hb dX3_child_10 rfl (lv_at hl 0 rfl) ?_
    refine va_get (D := (dC, dI)) (ci := 3) (v := .int (I 2)) (C := RX3) (T := TX3) (N := 9) hx hb hts nX3_child_X3 hown hK hP 0 rfl rfl 2 (by decide) (hts _ mX3_child_f43) (fun _ h9 => h9) rfl dX3_child_11 ?_
    refine lv_bipush (v := (16 : Int32)) hx hb dX3_child_14 (by decide) ?_
    refine lv_icmp_lt (tgt := 21) hx hb dX3_child_16 (by decide) (fun hc => ?_) (fun hc => ?_)
    · have hq := hq.1 hc
      refine lv_aload_n hx hb dX3_child_21 rfl (lv_at hl 0 rfl) ?_
      refine va_get (D := (dC, dI)) (ci := 3) (v := .ref (ad 0)) (C := RX3) (T := TX3) (N := 9) hx hb hts nX3_child_X3 hown hK hP 0 rfl rfl 0 (by decide) (hts _ mX3_child_f9) (fun _ h9 => h9) rfl dX3_child_22 ?_
      refine lv_aload_n hx hb dX3_child_25 rfl (lv_at hl 0 rfl) ?_
      refine va_get (D := (dC, dI)) (ci := 3) (v := .int (I 2)) (C := RX3) (T := TX3) (N := 9) hx hb hts nX3_child_X3 hown hK hP 0 rfl rfl 2 (by decide) (hts _ mX3_child_f43) (fun _ h9 => h9) rfl dX3_child_26 ?_
      refine lv_iload_n hx hb dX3_child_29 rfl (lv_at hl 1 rfl) ?_
      obtain ⟨hi_2, hq⟩ := hq
      refine va_iast (f := R 0) hx hb hK hP hD hS 1 0 rfl rfl hi_2 dX3_child_30 (fun H locs hP hD hS => ?_)
      rw [wd3_R0] at hP hD
      refine lv_aload_n hx hb dX3_child_31 rfl (lv_at hl 0 rfl) ?_
      refine va_get (D := (dC, dI)) (ci := 3) (v := .ref (ad 1)) (C := RX3) (T := TX3) (N := 9) hx hb hts nX3_child_X3 hown hK hP 0 rfl rfl 1 (by decide) (hts _ mX3_child_f13) (fun _ h9 => h9) rfl dX3_child_32 ?_
      refine lv_aload_n hx hb dX3_child_35 rfl (lv_at hl 0 rfl) ?_
      refine va_get (D := (dC, dI)) (ci := 3) (v := .int (I 2)) (C := RX3) (T := TX3) (N := 9) hx hb hts nX3_child_X3 hown hK hP 0 rfl rfl 2 (by decide) (hts _ mX3_child_f43) (fun _ h9 => h9) rfl dX3_child_36 ?_
      refine lv_bipush (v := (7 : Int32)) hx hb dX3_child_39 (by decide) ?_
      refine va_iast (f := R 1) hx hb hK hP hD hS 2 0 rfl rfl hi_2 dX3_child_41 (fun H locs hP hD hS => ?_)
      rw [wd3_R1] at hP hD
      refine lv_aload_n hx hb dX3_child_42 rfl (lv_at hl 0 rfl) ?_
      refine lv_dup hx hb dX3_child_43 rfl ?_
      refine va_get (D := (dC, dI)) (ci := 3) (v := .int (I 2)) (C := RX3) (T := TX3) (N := 9) hx hb hts nX3_child_X3 hown hK hP 0 rfl rfl 2 (by decide) (hts _ mX3_child_f43) (fun _ h9 => h9) rfl dX3_child_44 ?_
      refine lv_dup_x1 hx hb dX3_child_47 rfl rfl ?_
      refine lv_iconst (v := (1 : Int32)) hx hb dX3_child_48 (by decide) ?_
      refine lv_iadd hx hb dX3_child_49 ?_
      refine va_put (D := (dC, dI)) (ci := 3) (v := .int ((I 2) + (1 : Int32))) (ty := .int) (C := RX3) (T := TX3) (N := 9) hx hb hts nX3_child_X3 tyX3 tyX3_ok nmX3 hown hK hP hD hS 0 rfl rfl 2 (by decide) (hts _ mX3_child_f43) (fun _ h9 => h9) rfl (by decide +kernel) rfl rfl (Nat.le_of_ble_eq_true rfl) dX3_child_50 (fun H locs hP hD hS => ?_)
      rw [wd3_I2] at hP hD
      exact w_iret (post := fun r (u : (Nat → Int32) × (Nat → Nat → Int32) × (Nat → Int32) × (Nat → Int64) × (Nat → Nat → Int32) × (Nat → Nat → Int64) × (Nat → Int32) × (Nat → Nat → Int32) × (Nat) × (Nat) × (vS)) => post r u.1 u.2.1 u.2.2.1 u.2.2.2.1 u.2.2.2.2.1 u.2.2.2.2.2.1 u.2.2.2.2.2.2.1 u.2.2.2.2.2.2.2.1 u.2.2.2.2.2.2.2.2.1 u.2.2.2.2.2.2.2.2.2.1 u.2.2.2.2.2.2.2.2.2.2) (wf := fun u : (Nat → Int32) × (Nat → Nat → Int32) × (Nat → Int32) × (Nat → Int64) × (Nat → Nat → Int32) × (Nat → Nat → Int64) × (Nat → Int32) × (Nat → Nat → Int32) × (Nat) × (Nat) × (vS) => wd3 cI cJ cP h ad ad0 ad1 u.1 u.2.1 u.2.2.1 u.2.2.2.1 u.2.2.2.2.1 u.2.2.2.2.2.1 u.2.2.2.2.2.2.1 u.2.2.2.2.2.2.2.1 u.2.2.2.2.2.2.2.2.1 u.2.2.2.2.2.2.2.2.2.1 u.2.2.2.2.2.2.2.2.2.2) (u := (va_up I 2 ((I 2) + (1 : Int32)), va_up (va_up R 0 (upd (R 0) (I 2).toNatClampNeg p1)) 1 (upd (R 1) (I 2).toNatClampNeg (7 : Int32)), CI, CJ, CR, CG, EI, ER, Eq, En, V)) hx hb hr hK hP hD hS hq dX3_child_53 hlocks
    · have hq := hq.2 hc
      refine lv_iconst (v := (-1 : Int32)) hx hb dX3_child_19 (by decide) ?_
      exact w_iret (post := fun r (u : (Nat → Int32) × (Nat → Nat → Int32) × (Nat → Int32) × (Nat → Int64) × (Nat → Nat → Int32) × (Nat → Nat → Int64) × (Nat → Int32) × (Nat → Nat → Int32) × (Nat) × (Nat) × (vS)) => post r u.1 u.2.1 u.2.2.1 u.2.2.2.1 u.2.2.2.2.1 u.2.2.2.2.2.1 u.2.2.2.2.2.2.1 u.2.2.2.2.2.2.2.1 u.2.2.2.2.2.2.2.2.1 u.2.2.2.2.2.2.2.2.2.1 u.2.2.2.2.2.2.2.2.2.2) (wf := fun u : (Nat → Int32) × (Nat → Nat → Int32) × (Nat → Int32) × (Nat → Int64) × (Nat → Nat → Int32) × (Nat → Nat → Int64) × (Nat → Int32) × (Nat → Nat → Int32) × (Nat) × (Nat) × (vS) => wd3 cI cJ cP h ad ad0 ad1 u.1 u.2.1 u.2.2.1 u.2.2.2.1 u.2.2.2.2.1 u.2.2.2.2.2.1 u.2.2.2.2.2.2.1 u.2.2.2.2.2.2.2.1 u.2.2.2.2.2.2.2.2.1 u.2.2.2.2.2.2.2.2.2.1 u.2.2.2.2.2.2.2.2.2.2) (u := (I, R, CI, CJ, CR, CG, EI, ER, Eq, En, V)) hx hb hr hK hP hD hS hq dX3_child_20 hlocks
def zX3_childrenInGood (post : Int32 → Prop) (I : Nat → Int32) (R : Nat → Nat → Int32) (CI : Nat → Int32) (CJ : Nat → Int64) (CR : Nat → Nat → Int32) (CG : Nat → Nat → Int64) (EI : Nat → Int32) (ER : Nat → Nat → Int32) (Eq : Nat) (En : Nat) (V : vS) (X4 : Int32 → Int32 → Prop) : Prop :=
  (∀ (x1 : Int32) (x2 : Int32), ((((I 4) ≤ x2) → (post x1)) ∧ ((¬ (I 4) ≤ x2) → (∃ Pc_1 : Int32 → Prop, qX3_shownIn Pc_1 x2 I R CI CJ CR CG EI ER Eq En V ∧ (∀ (rc_1 : Int32), Pc_1 rc_1 → (∀ x1_2 : Int32, x1_2 = x1 ||| rc_1 → (X4 x1_2 (x2 + (1 : Int32)))))))) → X4 x1 x2)
def qX3_childrenInGood_4 (post : Int32 → Prop) (I : Nat → Int32) (R : Nat → Nat → Int32) (CI : Nat → Int32) (CJ : Nat → Int64) (CR : Nat → Nat → Int32) (CG : Nat → Nat → Int64) (EI : Nat → Int32) (ER : Nat → Nat → Int32) (Eq : Nat) (En : Nat) (V : vS) (x1 : Int32) (x2 : Int32) : Prop := ∀ (X4 : Int32 → Int32 → Prop), zX3_childrenInGood post I R CI CJ CR CG EI ER Eq En V X4 → X4 x1 x2
theorem kX3_childrenInGood_4 {post : Int32 → Prop} {I : Nat → Int32} {R : Nat → Nat → Int32} {CI : Nat → Int32} {CJ : Nat → Int64} {CR : Nat → Nat → Int32} {CG : Nat → Nat → Int64} {EI : Nat → Int32} {ER : Nat → Nat → Int32} {Eq : Nat} {En : Nat} {V : vS} {x1 : Int32} {x2 : Int32} (h : (((I 4) ≤ x2) → (post x1)) ∧ ((¬ (I 4) ≤ x2) → (∃ Pc_1 : Int32 → Prop, qX3_shownIn Pc_1 x2 I R CI CJ CR CG EI ER Eq En V ∧ (∀ (rc_1 : Int32), Pc_1 rc_1 → (∀ x1_2 : Int32, x1_2 = x1 ||| rc_1 → (qX3_childrenInGood_4 post I R CI CJ CR CG EI ER Eq En V x1_2 (x2 + (1 : Int32)))))))) : qX3_childrenInGood_4 post I R CI CJ CR CG EI ER Eq En V x1 x2 := by
  intro Z4 hcl
  refine hcl x1 x2 ?_
  refine ⟨fun c => ?_, fun c => ?_⟩
  · have h := h.1 c
    exact h
  · have h := h.2 c
    obtain ⟨P, h1, h2⟩ := h
    refine ⟨P, h1, fun b0 hp => ?_⟩
    have h := h2 b0 hp
    intro x e
    have h := h x e
    exact h _ hcl
def qX3_childrenInGood (post : Int32 → Prop) (I : Nat → Int32) (R : Nat → Nat → Int32) (CI : Nat → Int32) (CJ : Nat → Int64) (CR : Nat → Nat → Int32) (CG : Nat → Nat → Int64) (EI : Nat → Int32) (ER : Nat → Nat → Int32) (Eq : Nat) (En : Nat) (V : vS) : Prop := qX3_childrenInGood_4 post I R CI CJ CR CG EI ER Eq En V (0 : Int32) (0 : Int32)
theorem mX3_childrenInGood_f51 : Cond.fieldLink RX3 51 "YearBook" "pictureCount" "I" ∈ wsX3_childrenInGood := by decide +kernel
theorem nX3_childrenInGood_X3 : ∀ w ∈ u_ws RX3 TX3 9, w ∈ wsX3_childrenInGood := by decide +kernel
set_option maxHeartbeats 4000000 in
set_option maxRecDepth 100000 in
theorem tX3_childrenInGood (l : Launch) (dC : Nat → ClassId) (dI : Nat → Nat → Nat) (cI : ClassId) (cJ : ClassId) (cP : ClassId) (h : Nat) (ad ad0 ad1 : Nat → Nat)  (sz : Nat) (post : Int32 → Prop) (I : Nat → Int32) (R : Nat → Nat → Int32) (CI : Nat → Int32) (CJ : Nat → Int64) (CR : Nat → Nat → Int32) (CG : Nat → Nat → Int64) (EI : Nat → Int32) (ER : Nat → Nat → Int32) (Eq : Nat) (En : Nat) (V : vS) (hq : qX3_childrenInGood post I R CI CJ CR CG EI ER Eq En V) : Met l yX3_childrenInGood wsX3_childrenInGood ({ frames := 2, cells := 0, slots := 0, locals := 43 } : Room) (va_Pc [.ref h] (wPreN (dC, dI) vwCl [(cI, .int), (cJ, .long), (cP, .object "YearBook$Picture")] (wd3 cI cJ cP h ad ad0 ad1 I R CI CJ CR CG EI ER Eq En V) sz)) (va_Qi (fun r (_ : Unit) => post r ) (wAt (dC, dI) vwCl [(cI, .int), (cJ, .long), (cP, .object "YearBook$Picture")] (va_A (wd3 cI cJ cP h ad ad0 ad1 I R CI CJ CR CG EI ER Eq En V) sz) (fun _ : Unit => wd3 cI cJ cP h ad ad0 ad1 I R CI CJ CR CG EI ER Eq En V)) (va_A (wd3 cI cJ cP h ad ad0 ad1 I R CI CJ CR CG EI ER Eq En V) sz)) 0 0 (va_A (wd3 cI cJ cP h ad ad0 ad1 I R CI CJ CR CG EI ER Eq En V) sz) := by
  unfold qX3_childrenInGood at hq
  refine Met.ofW (cc := cX3_childrenInGood) (maxL := 3) (ret := (some .int)) (by decide) rfl ?_
  intro p e s m args below meth c s₁ B hml hv
  obtain ⟨rfl, ⟨hsz, hP, hK, hD0⟩, hn⟩ := hv
  have hx := B.exec
  have hb := B.bytes
  have hr := B.returns
  have hts := atoms_spec (ws := wsX3_childrenInGood) B.pre
  have hown : s.vm.findClass RX3 = some m.cls := findClass_of_methodNamed B.named
  have hlocks := B.notSynchronized
  subst hsz
  have hD := hD0.self (sz := s.heap.size)
  generalize hAe : va_A (wd3 cI cJ cP h ad ad0 ad1 I R CI CJ CR CG EI ER Eq En V) s.heap.size = A at hD ⊢
  have hA : ∀ q : Nat, s.heap.size ≤ q → A q := fun q h => by rw [← hAe]; exact Or.inr h
  have hS : va_S A s.heap s.heap [] := va_S.rf
  have hZ : zX3_childrenInGood post I R CI CJ CR CG EI ER Eq En V
      (fun (x1 : Int32) (x2 : Int32) => ∀ (H : Heap) (locs : List Loc) (ls : Array Slot), va_P (dC, dI) vwCl (wd3 cI cJ cP h ad ad0 ad1 I R CI CJ CR CG EI ER Eq En V) H → va_D A (wd3 cI cJ cP h ad ad0 ad1 I R CI CJ CR CG EI ER Eq En V) → va_S A s.heap H locs → lv_has ls 3 [(0, .ref h), (1, .int x1), (2, .int x2)] → W p l e (headSpec wsX3_childrenInGood ({ frames := 2, cells := 0, slots := 0, locals := 43 } : Room)).room s m ([.ref h] : List Value).toArray below meth c H locs 0 0 (MQ below (va_Qi (fun r (_ : Unit) => post r ) (wAt (dC, dI) vwCl [(cI, .int), (cJ, .long), (cP, .object "YearBook$Picture")] A (fun _ : Unit => wd3 cI cJ cP h ad ad0 ad1 I R CI CJ CR CG EI ER Eq En V)) A) ([.ref h] : List Value).toArray s 0 0 A) (F0 m 4 ls [])) := by
    unfold zX3_childrenInGood
    intro x1 x2 hq H locs ls hP hD hS hl
    refine lv_iload_n hx hb dX3_childrenInGood_4 rfl (lv_at hl 2 rfl) ?_
    refine lv_aload_n hx hb dX3_childrenInGood_5 rfl (lv_at hl 0 rfl) ?_
    refine va_get (D := (dC, dI)) (ci := 3) (v := .int (I 4)) (C := RX3) (T := TX3) (N := 9) hx hb hts nX3_childrenInGood_X3 hown hK hP 0 rfl rfl 4 (by decide) (hts _ mX3_childrenInGood_f51) (fun _ h9 => h9) rfl dX3_childrenInGood_6 ?_
    refine lv_icmp_ge (tgt := 26) hx hb dX3_childrenInGood_9 (by decide) (fun hc => ?_) (fun hc => ?_)
    · have hq := hq.1 hc
      refine lv_iload_n hx hb dX3_childrenInGood_26 rfl (lv_at hl 1 rfl) ?_
      exact w_iret (post := fun r (_ : Unit) => post r ) (wf := fun _ : Unit => wd3 cI cJ cP h ad ad0 ad1 I R CI CJ CR CG EI ER Eq En V) (u := ()) hx hb hr hK hP hD hS hq dX3_childrenInGood_27 hlocks
    · have hq := hq.2 hc
      refine lv_iload_n hx hb dX3_childrenInGood_12 rfl (lv_at hl 1 rfl) ?_
      refine lv_aload_n hx hb dX3_childrenInGood_13 rfl (lv_at hl 0 rfl) ?_
      refine lv_iload_n hx hb dX3_childrenInGood_14 rfl (lv_at hl 2 rfl) ?_
      obtain ⟨Pc_1, hc, hq⟩ := hq
      refine w_calli (wf := fun _ : Unit => wd3 cI cJ cP h ad ad0 ad1 I R CI CJ CR CG EI ER Eq En V) (va_runV (As := [.int x2]) (rest := [.int x1]) ⟨hx, hb, hml, hown, hts⟩ (tX3_shownIn l dC dI cI cJ cP h ad ad0 ad1 _ Pc_1 x2 I R CI CJ CR CG EI ER Eq En V hc) (cwV 1 hts gX3_childrenInGood_X3_shownIn rfl rfl rfl (by decide +kernel) ⟨Nat.le_of_ble_eq_true rfl, Nat.le_of_ble_eq_true rfl⟩) (wPreVN hn hK hP hD (ci := 3) (q0 := 0) rfl rfl) rfl rfl hl.1 rfl (lv_room (Nat.le_of_ble_eq_true rfl)) dX3_childrenInGood_15 ⟨Nat.le_of_ble_eq_true rfl, Nat.le_of_ble_eq_true rfl⟩) hD hS hA (fun rc_1 u H locs hp hP hD hS => ?_)
      have hq := hq rc_1 hp
      have hP : va_P (dC, dI) vwCl (wd3 cI cJ cP h ad ad0 ad1 I R CI CJ CR CG EI ER Eq En V) H := hP
      have hD : va_D A (wd3 cI cJ cP h ad ad0 ad1 I R CI CJ CR CG EI ER Eq En V) := hD
      refine lv_ior hx hb dX3_childrenInGood_18 ?_
      refine lv_topi (fun x1_2 ex1_2 => ?_)
      have hq := hq x1_2 ex1_2
      refine lv_istore_n (lv' := [(1, .int x1_2), (0, .ref h), (2, .int x2)]) hx hb dX3_childrenInGood_19 rfl hl (by decide) rfl (fun ls hl => ?_)
      refine lv_iinc (v := x2 + (1 : Int32)) (lv' := [(2, .int (x2 + (1 : Int32))), (1, .int x1_2), (0, .ref h)]) hx hb dX3_childrenInGood_20 hl (k := 2) rfl rfl (by decide) rfl (fun ls hl => ?_)
      refine lv_goto (tgt := 4) hx hb dX3_childrenInGood_23 (by decide) ?_
      exact hq _ _ ls hP hD hS (lv_sub hl [2, 1, 0] rfl)
  have hl := lv_entry ([.ref h]) (n := 3) (Nat.le_of_ble_eq_true rfl)
  rw [lg_entry_eq]
  generalize (lg_sl ([.ref h]) ++ List.replicate (3 - (lg_sl ([.ref h])).length) Slot.unset).toArray = ls at hl ⊢
  have hl : lv_has ls 3 [(0, .ref h)] := hl
  refine lv_iconst (v := (0 : Int32)) hx hb dX3_childrenInGood_0 (by decide) ?_
  refine lv_istore_n (lv' := [(1, .int (0 : Int32)), (0, .ref h)]) hx hb dX3_childrenInGood_1 rfl hl (by decide) rfl (fun ls hl => ?_)
  refine lv_iconst (v := (0 : Int32)) hx hb dX3_childrenInGood_2 (by decide) ?_
  refine lv_istore_n (lv' := [(2, .int (0 : Int32)), (1, .int (0 : Int32)), (0, .ref h)]) hx hb dX3_childrenInGood_3 rfl hl (by decide) rfl (fun ls hl => ?_)
  exact hq _ hZ _ _ ls hP hD hS (lv_sub hl [2, 1, 0] rfl)
def qX3_choices (post : Int32 → (Nat → Int32) → (Nat → Nat → Int32) → (Nat → Int32) → (Nat → Int64) → (Nat → Nat → Int32) → (Nat → Nat → Int64) → (Nat → Int32) → (Nat → Nat → Int32) → Nat → Nat → vS → Prop) (I : Nat → Int32) (R : Nat → Nat → Int32) (CI : Nat → Int32) (CJ : Nat → Int64) (CR : Nat → Nat → Int32) (CG : Nat → Nat → Int64) (EI : Nat → Int32) (ER : Nat → Nat → Int32) (Eq : Nat) (En : Nat) (V : vS) : Prop := ∃ Pc_1 : (Nat → Int32) → (Nat → Nat → Int32) → (Nat → Int32) → (Nat → Int64) → (Nat → Nat → Int32) → (Nat → Nat → Int64) → (Nat → Int32) → (Nat → Nat → Int32) → Nat → Nat → vS → Prop, qX3_offerPictures Pc_1 (0 : Int64) I R CI CJ CR CG EI ER Eq En V ∧ (∀ (Ic_1 : Nat → Int32) (Rc_1 : Nat → Nat → Int32) (CIc_1 : Nat → Int32) (CJc_1 : Nat → Int64) (CRc_1 : Nat → Nat → Int32) (CGc_1 : Nat → Nat → Int64) (EIc_1 : Nat → Int32) (ERc_1 : Nat → Nat → Int32) (Eqc_1 : Nat) (Enc_1 : Nat) (Vc_1 : vS), Pc_1 Ic_1 Rc_1 CIc_1 CJc_1 CRc_1 CGc_1 EIc_1 ERc_1 Eqc_1 Enc_1 Vc_1 → (∃ Pc_2 : Int32 → Prop, qX0_countFitting Pc_2  CIc_1 CJc_1 CRc_1 CGc_1 ∧ (∀ (rc_2 : Int32), Pc_2 rc_2 → (post rc_2 Ic_1 Rc_1 CIc_1 CJc_1 CRc_1 CGc_1 EIc_1 ERc_1 Eqc_1 Enc_1 Vc_1))))
theorem mX3_choices_f28 : Cond.fieldLink RX3 28 "YearBook" "chooser" "LYearBook$Chooser;" ∈ wsX3_choices := by decide +kernel
theorem nX3_choices_X3 : ∀ w ∈ u_ws RX3 TX3 9, w ∈ wsX3_choices := by decide +kernel
set_option maxHeartbeats 4000000 in
set_option maxRecDepth 100000 in
theorem tX3_choices (l : Launch) (dC : Nat → ClassId) (dI : Nat → Nat → Nat) (cI : ClassId) (cJ : ClassId) (cP : ClassId) (h : Nat) (ad ad0 ad1 : Nat → Nat)  (sz : Nat) (post : Int32 → (Nat → Int32) → (Nat → Nat → Int32) → (Nat → Int32) → (Nat → Int64) → (Nat → Nat → Int32) → (Nat → Nat → Int64) → (Nat → Int32) → (Nat → Nat → Int32) → Nat → Nat → vS → Prop) (I : Nat → Int32) (R : Nat → Nat → Int32) (CI : Nat → Int32) (CJ : Nat → Int64) (CR : Nat → Nat → Int32) (CG : Nat → Nat → Int64) (EI : Nat → Int32) (ER : Nat → Nat → Int32) (Eq : Nat) (En : Nat) (V : vS) (hq : qX3_choices post I R CI CJ CR CG EI ER Eq En V) : Met l yX3_choices wsX3_choices ({ frames := 24, cells := 0, slots := 0, locals := 556 } : Room) (va_Pc [.ref h] (wPreN (dC, dI) vwCl [(cI, .int), (cJ, .long), (cP, .object "YearBook$Picture")] (wd3 cI cJ cP h ad ad0 ad1 I R CI CJ CR CG EI ER Eq En V) sz)) (va_Qi (fun r (u : (Nat → Int32) × (Nat → Nat → Int32) × (Nat → Int32) × (Nat → Int64) × (Nat → Nat → Int32) × (Nat → Nat → Int64) × (Nat → Int32) × (Nat → Nat → Int32) × (Nat) × (Nat) × (vS)) => post r u.1 u.2.1 u.2.2.1 u.2.2.2.1 u.2.2.2.2.1 u.2.2.2.2.2.1 u.2.2.2.2.2.2.1 u.2.2.2.2.2.2.2.1 u.2.2.2.2.2.2.2.2.1 u.2.2.2.2.2.2.2.2.2.1 u.2.2.2.2.2.2.2.2.2.2) (wAt (dC, dI) vwCl [(cI, .int), (cJ, .long), (cP, .object "YearBook$Picture")] (va_A (wd3 cI cJ cP h ad ad0 ad1 I R CI CJ CR CG EI ER Eq En V) sz) (fun u : (Nat → Int32) × (Nat → Nat → Int32) × (Nat → Int32) × (Nat → Int64) × (Nat → Nat → Int32) × (Nat → Nat → Int64) × (Nat → Int32) × (Nat → Nat → Int32) × (Nat) × (Nat) × (vS) => wd3 cI cJ cP h ad ad0 ad1 u.1 u.2.1 u.2.2.1 u.2.2.2.1 u.2.2.2.2.1 u.2.2.2.2.2.1 u.2.2.2.2.2.2.1 u.2.2.2.2.2.2.2.1 u.2.2.2.2.2.2.2.2.1 u.2.2.2.2.2.2.2.2.2.1 u.2.2.2.2.2.2.2.2.2.2)) (va_A (wd3 cI cJ cP h ad ad0 ad1 I R CI CJ CR CG EI ER Eq En V) sz)) 0 0 (va_A (wd3 cI cJ cP h ad ad0 ad1 I R CI CJ CR CG EI ER Eq En V) sz) := by
  unfold qX3_choices at hq
  refine Met.ofW (cc := cX3_choices) (maxL := 1) (ret := (some .int)) (by decide) rfl ?_
  intro p e s m args below meth c s₁ B hml hv
  obtain ⟨rfl, ⟨hsz, hP, hK, hD0⟩, hn⟩ := hv
  have hx := B.exec
  have hb := B.bytes
  have hr := B.returns
  have hts := atoms_spec (ws := wsX3_choices) B.pre
  have hown : s.vm.findClass RX3 = some m.cls := findClass_of_methodNamed B.named
  have hlocks := B.notSynchronized
  subst hsz
  have hD := hD0.self (sz := s.heap.size)
  generalize hAe : va_A (wd3 cI cJ cP h ad ad0 ad1 I R CI CJ CR CG EI ER Eq En V) s.heap.size = A at hD ⊢
  have hA : ∀ q : Nat, s.heap.size ≤ q → A q := fun q h => by rw [← hAe]; exact Or.inr h
  have hS : va_S A s.heap s.heap [] := va_S.rf
  have hl := lv_entry ([.ref h]) (n := 1) (Nat.le_of_ble_eq_true rfl)
  rw [lg_entry_eq]
  generalize (lg_sl ([.ref h]) ++ List.replicate (1 - (lg_sl ([.ref h])).length) Slot.unset).toArray = ls at hl ⊢
  have hl : lv_has ls 1 [(0, .ref h)] := hl
  refine lv_aload_n hx hb dX3_choices_0 rfl (lv_at hl 0 rfl) ?_
  refine lv_lconst (v := (0 : Int64)) hx hb dX3_choices_1 (by decide) ?_
  obtain ⟨Pc_1, hc, hq⟩ := hq
  refine w_callv (wf := fun u : (Nat → Int32) × (Nat → Nat → Int32) × (Nat → Int32) × (Nat → Int64) × (Nat → Nat → Int32) × (Nat → Nat → Int64) × (Nat → Int32) × (Nat → Nat → Int32) × (Nat) × (Nat) × (vS) => wd3 cI cJ cP h ad ad0 ad1 u.1 u.2.1 u.2.2.1 u.2.2.2.1 u.2.2.2.2.1 u.2.2.2.2.2.1 u.2.2.2.2.2.2.1 u.2.2.2.2.2.2.2.1 u.2.2.2.2.2.2.2.2.1 u.2.2.2.2.2.2.2.2.2.1 u.2.2.2.2.2.2.2.2.2.2) (va_runV (As := [.long (0 : Int64)]) (rest := []) ⟨hx, hb, hml, hown, hts⟩ (tX3_offerPictures l dC dI cI cJ cP h ad ad0 ad1 _ Pc_1 (0 : Int64) I R CI CJ CR CG EI ER Eq En V hc) (cwV 1 hts gX3_choices_X3_offerPictures rfl rfl rfl (by decide +kernel) ⟨Nat.le_of_ble_eq_true rfl, Nat.le_of_ble_eq_true rfl⟩) (wPreVN hn hK hP hD (ci := 3) (q0 := 0) rfl rfl) rfl rfl hl.1 rfl (lv_room (Nat.le_of_ble_eq_true rfl)) dX3_choices_2 ⟨Nat.le_of_ble_eq_true rfl, Nat.le_of_ble_eq_true rfl⟩) hD hS hA (fun u H locs hp hP hD hS => ?_)
  obtain ⟨Ic_1, Rc_1, CIc_1, CJc_1, CRc_1, CGc_1, EIc_1, ERc_1, Eqc_1, Enc_1, Vc_1⟩ := u
  have hq := hq Ic_1 Rc_1 CIc_1 CJc_1 CRc_1 CGc_1 EIc_1 ERc_1 Eqc_1 Enc_1 Vc_1 hp
  have hP : va_P (dC, dI) vwCl (wd3 cI cJ cP h ad ad0 ad1 Ic_1 Rc_1 CIc_1 CJc_1 CRc_1 CGc_1 EIc_1 ERc_1 Eqc_1 Enc_1 Vc_1) H := hP
  have hD : va_D A (wd3 cI cJ cP h ad ad0 ad1 Ic_1 Rc_1 CIc_1 CJc_1 CRc_1 CGc_1 EIc_1 ERc_1 Eqc_1 Enc_1 Vc_1) := hD
  refine lv_aload_n hx hb dX3_choices_5 rfl (lv_at hl 0 rfl) ?_
  refine va_get (D := (dC, dI)) (ci := 3) (v := .ref (ad 7)) (C := RX3) (T := TX3) (N := 9) hx hb hts nX3_choices_X3 hown hK hP 0 rfl rfl 7 (by decide) (hts _ mX3_choices_f28) (fun _ h9 => h9) rfl dX3_choices_6 ?_
  obtain ⟨Pc_2, hc, hq⟩ := hq
  refine w_calli (wf := fun _ : Unit => wd3 cI cJ cP h ad ad0 ad1 Ic_1 Rc_1 CIc_1 CJc_1 CRc_1 CGc_1 EIc_1 ERc_1 Eqc_1 Enc_1 Vc_1) (va_runV (As := []) (rest := []) ⟨hx, hb, hml, hown, hts⟩ (Met_frame_i (w' := fun _ : Unit => wd3 cI cJ cP h ad ad0 ad1 Ic_1 Rc_1 CIc_1 CJc_1 CRc_1 CGc_1 EIc_1 ERc_1 Eqc_1 Enc_1 Vc_1) (tys2 := [(cI, .int), (cJ, .long), (cP, .object "YearBook$Picture")]) (tX0_countFitting l dC dI cI cJ (ad 7) ad0 _ Pc_2  CIc_1 CJc_1 CRc_1 CGc_1 hc) (p3c cI cJ cP h ad ad0 ad1 Ic_1 Rc_1 CIc_1 CJc_1 CRc_1 CGc_1 EIc_1 ERc_1 Eqc_1 Enc_1 Vc_1) (fun _ => (p3c cI cJ cP h ad ad0 ad1 Ic_1 Rc_1 CIc_1 CJc_1 CRc_1 CGc_1 EIc_1 ERc_1 Eqc_1 Enc_1 Vc_1).symm) (fun U hU => hU.sub [0, 1] rfl)) (cwV 0 hts gX3_choices_X0_countFitting rfl rfl rfl (by decide +kernel) ⟨Nat.le_of_ble_eq_true rfl, Nat.le_of_ble_eq_true rfl⟩) (wPreV hK hP hD (ci := 0) (q0 := 5) rfl rfl) rfl rfl hl.1 rfl (lv_room (Nat.le_of_ble_eq_true rfl)) dX3_choices_9 ⟨Nat.le_of_ble_eq_true rfl, Nat.le_of_ble_eq_true rfl⟩) hD hS hA (fun rc_2 u H locs hp hP hD hS => ?_)
  have hq := hq rc_2 hp
  have hP : va_P (dC, dI) vwCl (wd3 cI cJ cP h ad ad0 ad1 Ic_1 Rc_1 CIc_1 CJc_1 CRc_1 CGc_1 EIc_1 ERc_1 Eqc_1 Enc_1 Vc_1) H := hP
  have hD : va_D A (wd3 cI cJ cP h ad ad0 ad1 Ic_1 Rc_1 CIc_1 CJc_1 CRc_1 CGc_1 EIc_1 ERc_1 Eqc_1 Enc_1 Vc_1) := hD
  exact w_iret (post := fun r (u : (Nat → Int32) × (Nat → Nat → Int32) × (Nat → Int32) × (Nat → Int64) × (Nat → Nat → Int32) × (Nat → Nat → Int64) × (Nat → Int32) × (Nat → Nat → Int32) × (Nat) × (Nat) × (vS)) => post r u.1 u.2.1 u.2.2.1 u.2.2.2.1 u.2.2.2.2.1 u.2.2.2.2.2.1 u.2.2.2.2.2.2.1 u.2.2.2.2.2.2.2.1 u.2.2.2.2.2.2.2.2.1 u.2.2.2.2.2.2.2.2.2.1 u.2.2.2.2.2.2.2.2.2.2) (wf := fun u : (Nat → Int32) × (Nat → Nat → Int32) × (Nat → Int32) × (Nat → Int64) × (Nat → Nat → Int32) × (Nat → Nat → Int64) × (Nat → Int32) × (Nat → Nat → Int32) × (Nat) × (Nat) × (vS) => wd3 cI cJ cP h ad ad0 ad1 u.1 u.2.1 u.2.2.1 u.2.2.2.1 u.2.2.2.2.1 u.2.2.2.2.2.1 u.2.2.2.2.2.2.1 u.2.2.2.2.2.2.2.1 u.2.2.2.2.2.2.2.2.1 u.2.2.2.2.2.2.2.2.2.1 u.2.2.2.2.2.2.2.2.2.2) (u := (Ic_1, Rc_1, CIc_1, CJc_1, CRc_1, CGc_1, EIc_1, ERc_1, Eqc_1, Enc_1, Vc_1)) hx hb hr hK hP hD hS hq dX3_choices_12 hlocks
def qX3_choose (post : Int32 → (Nat → Int32) → (Nat → Nat → Int32) → (Nat → Int32) → (Nat → Int64) → (Nat → Nat → Int32) → (Nat → Nat → Int64) → (Nat → Int32) → (Nat → Nat → Int32) → Nat → Nat → vS → Prop) (p1 : Int32) (I : Nat → Int32) (R : Nat → Nat → Int32) (CI : Nat → Int32) (CJ : Nat → Int64) (CR : Nat → Nat → Int32) (CG : Nat → Nat → Int64) (EI : Nat → Int32) (ER : Nat → Nat → Int32) (Eq : Nat) (En : Nat) (V : vS) : Prop := ((p1 < 0) → (post (0 : Int32) I R CI CJ CR CG EI ER Eq En V)) ∧ ((¬ p1 < 0) → ((((p1 >>> ((I 4) &&& 31)) = 0) → (∃ Pc_1 : (Nat → Int32) → (Nat → Nat → Int32) → (Nat → Int32) → (Nat → Int64) → (Nat → Nat → Int32) → (Nat → Nat → Int64) → (Nat → Int32) → (Nat → Nat → Int32) → Nat → Nat → vS → Prop, qX3_decide Pc_1 p1 I R CI CJ CR CG EI ER Eq En V ∧ (∀ (Ic_1 : Nat → Int32) (Rc_1 : Nat → Nat → Int32) (CIc_1 : Nat → Int32) (CJc_1 : Nat → Int64) (CRc_1 : Nat → Nat → Int32) (CGc_1 : Nat → Nat → Int64) (EIc_1 : Nat → Int32) (ERc_1 : Nat → Nat → Int32) (Eqc_1 : Nat) (Enc_1 : Nat) (Vc_1 : vS), Pc_1 Ic_1 Rc_1 CIc_1 CJc_1 CRc_1 CGc_1 EIc_1 ERc_1 Eqc_1 Enc_1 Vc_1 → (post (1 : Int32) Ic_1 Rc_1 CIc_1 CJc_1 CRc_1 CGc_1 EIc_1 ERc_1 Eqc_1 Enc_1 Vc_1)))) ∧ ((¬ (p1 >>> ((I 4) &&& 31)) = 0) → (post (0 : Int32) I R CI CJ CR CG EI ER Eq En V))))
theorem mX3_choose_f51 : Cond.fieldLink RX3 51 "YearBook" "pictureCount" "I" ∈ wsX3_choose := by decide +kernel
theorem nX3_choose_X3 : ∀ w ∈ u_ws RX3 TX3 9, w ∈ wsX3_choose := by decide +kernel
set_option maxHeartbeats 4000000 in
set_option maxRecDepth 100000 in
theorem tX3_choose (l : Launch) (dC : Nat → ClassId) (dI : Nat → Nat → Nat) (cI : ClassId) (cJ : ClassId) (cP : ClassId) (h : Nat) (ad ad0 ad1 : Nat → Nat)  (sz : Nat) (post : Int32 → (Nat → Int32) → (Nat → Nat → Int32) → (Nat → Int32) → (Nat → Int64) → (Nat → Nat → Int32) → (Nat → Nat → Int64) → (Nat → Int32) → (Nat → Nat → Int32) → Nat → Nat → vS → Prop) (p1 : Int32) (I : Nat → Int32) (R : Nat → Nat → Int32) (CI : Nat → Int32) (CJ : Nat → Int64) (CR : Nat → Nat → Int32) (CG : Nat → Nat → Int64) (EI : Nat → Int32) (ER : Nat → Nat → Int32) (Eq : Nat) (En : Nat) (V : vS) (hq : qX3_choose post p1 I R CI CJ CR CG EI ER Eq En V) : Met l yX3_choose wsX3_choose ({ frames := 2, cells := 0, slots := 0, locals := 41 } : Room) (va_Pc [.ref h, .int p1] (wPreN (dC, dI) vwCl [(cI, .int), (cJ, .long), (cP, .object "YearBook$Picture")] (wd3 cI cJ cP h ad ad0 ad1 I R CI CJ CR CG EI ER Eq En V) sz)) (va_Qi (fun r (u : (Nat → Int32) × (Nat → Nat → Int32) × (Nat → Int32) × (Nat → Int64) × (Nat → Nat → Int32) × (Nat → Nat → Int64) × (Nat → Int32) × (Nat → Nat → Int32) × (Nat) × (Nat) × (vS)) => post r u.1 u.2.1 u.2.2.1 u.2.2.2.1 u.2.2.2.2.1 u.2.2.2.2.2.1 u.2.2.2.2.2.2.1 u.2.2.2.2.2.2.2.1 u.2.2.2.2.2.2.2.2.1 u.2.2.2.2.2.2.2.2.2.1 u.2.2.2.2.2.2.2.2.2.2) (wAt (dC, dI) vwCl [(cI, .int), (cJ, .long), (cP, .object "YearBook$Picture")] (va_A (wd3 cI cJ cP h ad ad0 ad1 I R CI CJ CR CG EI ER Eq En V) sz) (fun u : (Nat → Int32) × (Nat → Nat → Int32) × (Nat → Int32) × (Nat → Int64) × (Nat → Nat → Int32) × (Nat → Nat → Int64) × (Nat → Int32) × (Nat → Nat → Int32) × (Nat) × (Nat) × (vS) => wd3 cI cJ cP h ad ad0 ad1 u.1 u.2.1 u.2.2.1 u.2.2.2.1 u.2.2.2.2.1 u.2.2.2.2.2.1 u.2.2.2.2.2.2.1 u.2.2.2.2.2.2.2.1 u.2.2.2.2.2.2.2.2.1 u.2.2.2.2.2.2.2.2.2.1 u.2.2.2.2.2.2.2.2.2.2)) (va_A (wd3 cI cJ cP h ad ad0 ad1 I R CI CJ CR CG EI ER Eq En V) sz)) 0 0 (va_A (wd3 cI cJ cP h ad ad0 ad1 I R CI CJ CR CG EI ER Eq En V) sz) := by
  unfold qX3_choose at hq
  refine Met.ofW (cc := cX3_choose) (maxL := 2) (ret := (some .boolean)) (by decide) rfl ?_
  intro p e s m args below meth c s₁ B hml hv
  obtain ⟨rfl, ⟨hsz, hP, hK, hD0⟩, hn⟩ := hv
  have hx := B.exec
  have hb := B.bytes
  have hr := B.returns
  have hts := atoms_spec (ws := wsX3_choose) B.pre
  have hown : s.vm.findClass RX3 = some m.cls := findClass_of_methodNamed B.named
  have hlocks := B.notSynchronized
  subst hsz
  have hD := hD0.self (sz := s.heap.size)
  generalize hAe : va_A (wd3 cI cJ cP h ad ad0 ad1 I R CI CJ CR CG EI ER Eq En V) s.heap.size = A at hD ⊢
  have hA : ∀ q : Nat, s.heap.size ≤ q → A q := fun q h => by rw [← hAe]; exact Or.inr h
  have hS : va_S A s.heap s.heap [] := va_S.rf
  have hl := lv_entry ([.ref h, .int p1]) (n := 2) (Nat.le_of_ble_eq_true rfl)
  rw [lg_entry_eq]
  generalize (lg_sl ([.ref h, .int p1]) ++ List.replicate (2 - (lg_sl ([.ref h, .int p1])).length) Slot.unset).toArray = ls at hl ⊢
  have hl : lv_has ls 2 [(0, .ref h), (1, .int p1)] := hl
  refine lv_iload_n hx hb dX3_choose_0 rfl (lv_at hl 1 rfl) ?_
  refine lv_if_lt (tgt := 13) hx hb dX3_choose_1 (by decide) (fun hc => ?_) (fun hc => ?_)
  · have hq := hq.1 hc
    refine lv_iconst (v := (0 : Int32)) hx hb dX3_choose_13 (by decide) ?_
    exact w_zret (post := fun r (u : (Nat → Int32) × (Nat → Nat → Int32) × (Nat → Int32) × (Nat → Int64) × (Nat → Nat → Int32) × (Nat → Nat → Int64) × (Nat → Int32) × (Nat → Nat → Int32) × (Nat) × (Nat) × (vS)) => post r u.1 u.2.1 u.2.2.1 u.2.2.2.1 u.2.2.2.2.1 u.2.2.2.2.2.1 u.2.2.2.2.2.2.1 u.2.2.2.2.2.2.2.1 u.2.2.2.2.2.2.2.2.1 u.2.2.2.2.2.2.2.2.2.1 u.2.2.2.2.2.2.2.2.2.2) (wf := fun u : (Nat → Int32) × (Nat → Nat → Int32) × (Nat → Int32) × (Nat → Int64) × (Nat → Nat → Int32) × (Nat → Nat → Int64) × (Nat → Int32) × (Nat → Nat → Int32) × (Nat) × (Nat) × (vS) => wd3 cI cJ cP h ad ad0 ad1 u.1 u.2.1 u.2.2.1 u.2.2.2.1 u.2.2.2.2.1 u.2.2.2.2.2.1 u.2.2.2.2.2.2.1 u.2.2.2.2.2.2.2.1 u.2.2.2.2.2.2.2.2.1 u.2.2.2.2.2.2.2.2.2.1 u.2.2.2.2.2.2.2.2.2.2) (u := (I, R, CI, CJ, CR, CG, EI, ER, Eq, En, V)) hx hb hr rfl hK hP hD hS hq dX3_choose_14 hlocks
  · have hq := hq.2 hc
    refine lv_iload_n hx hb dX3_choose_4 rfl (lv_at hl 1 rfl) ?_
    refine lv_aload_n hx hb dX3_choose_5 rfl (lv_at hl 0 rfl) ?_
    refine va_get (D := (dC, dI)) (ci := 3) (v := .int (I 4)) (C := RX3) (T := TX3) (N := 9) hx hb hts nX3_choose_X3 hown hK hP 0 rfl rfl 4 (by decide) (hts _ mX3_choose_f51) (fun _ h9 => h9) rfl dX3_choose_6 ?_
    refine lv_ishr hx hb dX3_choose_9 ?_
    refine lv_if_eq (tgt := 15) hx hb dX3_choose_10 (by decide) (fun hc => ?_) (fun hc => ?_)
    · have hq := hq.1 hc
      refine lv_aload_n hx hb dX3_choose_15 rfl (lv_at hl 0 rfl) ?_
      refine lv_iload_n hx hb dX3_choose_16 rfl (lv_at hl 1 rfl) ?_
      obtain ⟨Pc_1, hc, hq⟩ := hq
      refine w_callv (wf := fun u : (Nat → Int32) × (Nat → Nat → Int32) × (Nat → Int32) × (Nat → Int64) × (Nat → Nat → Int32) × (Nat → Nat → Int64) × (Nat → Int32) × (Nat → Nat → Int32) × (Nat) × (Nat) × (vS) => wd3 cI cJ cP h ad ad0 ad1 u.1 u.2.1 u.2.2.1 u.2.2.2.1 u.2.2.2.2.1 u.2.2.2.2.2.1 u.2.2.2.2.2.2.1 u.2.2.2.2.2.2.2.1 u.2.2.2.2.2.2.2.2.1 u.2.2.2.2.2.2.2.2.2.1 u.2.2.2.2.2.2.2.2.2.2) (va_runV (As := [.int p1]) (rest := []) ⟨hx, hb, hml, hown, hts⟩ (tX3_decide l dC dI cI cJ cP h ad ad0 ad1 _ Pc_1 p1 I R CI CJ CR CG EI ER Eq En V hc) (cwV 1 hts gX3_choose_X3_decide rfl rfl rfl (by decide +kernel) ⟨Nat.le_of_ble_eq_true rfl, Nat.le_of_ble_eq_true rfl⟩) (wPreVN hn hK hP hD (ci := 3) (q0 := 0) rfl rfl) rfl rfl hl.1 rfl (lv_room (Nat.le_of_ble_eq_true rfl)) dX3_choose_17 ⟨Nat.le_of_ble_eq_true rfl, Nat.le_of_ble_eq_true rfl⟩) hD hS hA (fun u H locs hp hP hD hS => ?_)
      obtain ⟨Ic_1, Rc_1, CIc_1, CJc_1, CRc_1, CGc_1, EIc_1, ERc_1, Eqc_1, Enc_1, Vc_1⟩ := u
      have hq := hq Ic_1 Rc_1 CIc_1 CJc_1 CRc_1 CGc_1 EIc_1 ERc_1 Eqc_1 Enc_1 Vc_1 hp
      have hP : va_P (dC, dI) vwCl (wd3 cI cJ cP h ad ad0 ad1 Ic_1 Rc_1 CIc_1 CJc_1 CRc_1 CGc_1 EIc_1 ERc_1 Eqc_1 Enc_1 Vc_1) H := hP
      have hD : va_D A (wd3 cI cJ cP h ad ad0 ad1 Ic_1 Rc_1 CIc_1 CJc_1 CRc_1 CGc_1 EIc_1 ERc_1 Eqc_1 Enc_1 Vc_1) := hD
      refine lv_iconst (v := (1 : Int32)) hx hb dX3_choose_20 (by decide) ?_
      exact w_zret (post := fun r (u : (Nat → Int32) × (Nat → Nat → Int32) × (Nat → Int32) × (Nat → Int64) × (Nat → Nat → Int32) × (Nat → Nat → Int64) × (Nat → Int32) × (Nat → Nat → Int32) × (Nat) × (Nat) × (vS)) => post r u.1 u.2.1 u.2.2.1 u.2.2.2.1 u.2.2.2.2.1 u.2.2.2.2.2.1 u.2.2.2.2.2.2.1 u.2.2.2.2.2.2.2.1 u.2.2.2.2.2.2.2.2.1 u.2.2.2.2.2.2.2.2.2.1 u.2.2.2.2.2.2.2.2.2.2) (wf := fun u : (Nat → Int32) × (Nat → Nat → Int32) × (Nat → Int32) × (Nat → Int64) × (Nat → Nat → Int32) × (Nat → Nat → Int64) × (Nat → Int32) × (Nat → Nat → Int32) × (Nat) × (Nat) × (vS) => wd3 cI cJ cP h ad ad0 ad1 u.1 u.2.1 u.2.2.1 u.2.2.2.1 u.2.2.2.2.1 u.2.2.2.2.2.1 u.2.2.2.2.2.2.1 u.2.2.2.2.2.2.2.1 u.2.2.2.2.2.2.2.2.1 u.2.2.2.2.2.2.2.2.2.1 u.2.2.2.2.2.2.2.2.2.2) (u := (Ic_1, Rc_1, CIc_1, CJc_1, CRc_1, CGc_1, EIc_1, ERc_1, Eqc_1, Enc_1, Vc_1)) hx hb hr rfl hK hP hD hS hq dX3_choose_21 hlocks
    · have hq := hq.2 hc
      refine lv_iconst (v := (0 : Int32)) hx hb dX3_choose_13 (by decide) ?_
      exact w_zret (post := fun r (u : (Nat → Int32) × (Nat → Nat → Int32) × (Nat → Int32) × (Nat → Int64) × (Nat → Nat → Int32) × (Nat → Nat → Int64) × (Nat → Int32) × (Nat → Nat → Int32) × (Nat) × (Nat) × (vS)) => post r u.1 u.2.1 u.2.2.1 u.2.2.2.1 u.2.2.2.2.1 u.2.2.2.2.2.1 u.2.2.2.2.2.2.1 u.2.2.2.2.2.2.2.1 u.2.2.2.2.2.2.2.2.1 u.2.2.2.2.2.2.2.2.2.1 u.2.2.2.2.2.2.2.2.2.2) (wf := fun u : (Nat → Int32) × (Nat → Nat → Int32) × (Nat → Int32) × (Nat → Int64) × (Nat → Nat → Int32) × (Nat → Nat → Int64) × (Nat → Int32) × (Nat → Nat → Int32) × (Nat) × (Nat) × (vS) => wd3 cI cJ cP h ad ad0 ad1 u.1 u.2.1 u.2.2.1 u.2.2.2.1 u.2.2.2.2.1 u.2.2.2.2.2.1 u.2.2.2.2.2.2.1 u.2.2.2.2.2.2.2.1 u.2.2.2.2.2.2.2.2.1 u.2.2.2.2.2.2.2.2.2.1 u.2.2.2.2.2.2.2.2.2.2) (u := (I, R, CI, CJ, CR, CG, EI, ER, Eq, En, V)) hx hb hr rfl hK hP hD hS hq dX3_choose_14 hlocks
def zX3_chosenShowing (post : Int32 → Prop) (p1 : Int32) (I : Nat → Int32) (R : Nat → Nat → Int32) (CI : Nat → Int32) (CJ : Nat → Int64) (CR : Nat → Nat → Int32) (CG : Nat → Nat → Int64) (EI : Nat → Int32) (ER : Nat → Nat → Int32) (Eq : Nat) (En : Nat) (V : vS) (X4 : Int32 → Int32 → Prop) : Prop :=
  (∀ (x2 : Int32) (x3 : Int32), ((((I 4) ≤ x3) → (post x2)) ∧ ((¬ (I 4) ≤ x3) → (∃ Pc_1 : Int32 → Prop, qX3_isChosen Pc_1 x3 I R CI CJ CR CG EI ER Eq En V ∧ (∀ (rc_1 : Int32), Pc_1 rc_1 → (((rc_1 = 0) → (X4 x2 (x3 + (1 : Int32)))) ∧ ((¬ rc_1 = 0) → (∃ Pc_2 : Int32 → Prop, qX3_shownIn Pc_2 x3 I R CI CJ CR CG EI ER Eq En V ∧ (∀ (rc_2 : Int32), Pc_2 rc_2 → ((((rc_2 &&& p1) = 0) → (X4 x2 (x3 + (1 : Int32)))) ∧ ((¬ (rc_2 &&& p1) = 0) → (X4 (x2 + (1 : Int32)) (x3 + (1 : Int32))))))))))))) → X4 x2 x3)
def qX3_chosenShowing_4 (post : Int32 → Prop) (p1 : Int32) (I : Nat → Int32) (R : Nat → Nat → Int32) (CI : Nat → Int32) (CJ : Nat → Int64) (CR : Nat → Nat → Int32) (CG : Nat → Nat → Int64) (EI : Nat → Int32) (ER : Nat → Nat → Int32) (Eq : Nat) (En : Nat) (V : vS) (x2 : Int32) (x3 : Int32) : Prop := ∀ (X4 : Int32 → Int32 → Prop), zX3_chosenShowing post p1 I R CI CJ CR CG EI ER Eq En V X4 → X4 x2 x3
theorem kX3_chosenShowing_4 {post : Int32 → Prop} {p1 : Int32} {I : Nat → Int32} {R : Nat → Nat → Int32} {CI : Nat → Int32} {CJ : Nat → Int64} {CR : Nat → Nat → Int32} {CG : Nat → Nat → Int64} {EI : Nat → Int32} {ER : Nat → Nat → Int32} {Eq : Nat} {En : Nat} {V : vS} {x2 : Int32} {x3 : Int32} (h : (((I 4) ≤ x3) → (post x2)) ∧ ((¬ (I 4) ≤ x3) → (∃ Pc_1 : Int32 → Prop, qX3_isChosen Pc_1 x3 I R CI CJ CR CG EI ER Eq En V ∧ (∀ (rc_1 : Int32), Pc_1 rc_1 → (((rc_1 = 0) → (qX3_chosenShowing_4 post p1 I R CI CJ CR CG EI ER Eq En V x2 (x3 + (1 : Int32)))) ∧ ((¬ rc_1 = 0) → (∃ Pc_2 : Int32 → Prop, qX3_shownIn Pc_2 x3 I R CI CJ CR CG EI ER Eq En V ∧ (∀ (rc_2 : Int32), Pc_2 rc_2 → ((((rc_2 &&& p1) = 0) → (qX3_chosenShowing_4 post p1 I R CI CJ CR CG EI ER Eq En V x2 (x3 + (1 : Int32)))) ∧ ((¬ (rc_2 &&& p1) = 0) → (qX3_chosenShowing_4 post p1 I R CI CJ CR CG EI ER Eq En V (x2 + (1 : Int32)) (x3 + (1 : Int32))))))))))))) : qX3_chosenShowing_4 post p1 I R CI CJ CR CG EI ER Eq En V x2 x3 := by
  intro Z4 hcl
  refine hcl x2 x3 ?_
  refine ⟨fun c => ?_, fun c => ?_⟩
  · have h := h.1 c
    exact h
  · have h := h.2 c
    obtain ⟨P, h1, h2⟩ := h
    refine ⟨P, h1, fun b0 hp => ?_⟩
    have h := h2 b0 hp
    refine ⟨fun c => ?_, fun c => ?_⟩
    · have h := h.1 c
      exact h _ hcl
    · have h := h.2 c
      obtain ⟨P, h1, h2⟩ := h
      refine ⟨P, h1, fun b0 hp => ?_⟩
      have h := h2 b0 hp
      refine ⟨fun c => ?_, fun c => ?_⟩
      · have h := h.1 c
        exact h _ hcl
      · have h := h.2 c
        exact h _ hcl
def qX3_chosenShowing (post : Int32 → Prop) (p1 : Int32) (I : Nat → Int32) (R : Nat → Nat → Int32) (CI : Nat → Int32) (CJ : Nat → Int64) (CR : Nat → Nat → Int32) (CG : Nat → Nat → Int64) (EI : Nat → Int32) (ER : Nat → Nat → Int32) (Eq : Nat) (En : Nat) (V : vS) : Prop := qX3_chosenShowing_4 post p1 I R CI CJ CR CG EI ER Eq En V (0 : Int32) (0 : Int32)
theorem mX3_chosenShowing_f51 : Cond.fieldLink RX3 51 "YearBook" "pictureCount" "I" ∈ wsX3_chosenShowing := by decide +kernel
theorem nX3_chosenShowing_X3 : ∀ w ∈ u_ws RX3 TX3 9, w ∈ wsX3_chosenShowing := by decide +kernel
set_option maxHeartbeats 4000000 in
set_option maxRecDepth 100000 in
theorem tX3_chosenShowing (l : Launch) (dC : Nat → ClassId) (dI : Nat → Nat → Nat) (cI : ClassId) (cJ : ClassId) (cP : ClassId) (h : Nat) (ad ad0 ad1 : Nat → Nat)  (sz : Nat) (post : Int32 → Prop) (p1 : Int32) (I : Nat → Int32) (R : Nat → Nat → Int32) (CI : Nat → Int32) (CJ : Nat → Int64) (CR : Nat → Nat → Int32) (CG : Nat → Nat → Int64) (EI : Nat → Int32) (ER : Nat → Nat → Int32) (Eq : Nat) (En : Nat) (V : vS) (hq : qX3_chosenShowing post p1 I R CI CJ CR CG EI ER Eq En V) : Met l yX3_chosenShowing wsX3_chosenShowing ({ frames := 2, cells := 0, slots := 0, locals := 43 } : Room) (va_Pc [.ref h, .int p1] (wPreN (dC, dI) vwCl [(cI, .int), (cJ, .long), (cP, .object "YearBook$Picture")] (wd3 cI cJ cP h ad ad0 ad1 I R CI CJ CR CG EI ER Eq En V) sz)) (va_Qi (fun r (_ : Unit) => post r ) (wAt (dC, dI) vwCl [(cI, .int), (cJ, .long), (cP, .object "YearBook$Picture")] (va_A (wd3 cI cJ cP h ad ad0 ad1 I R CI CJ CR CG EI ER Eq En V) sz) (fun _ : Unit => wd3 cI cJ cP h ad ad0 ad1 I R CI CJ CR CG EI ER Eq En V)) (va_A (wd3 cI cJ cP h ad ad0 ad1 I R CI CJ CR CG EI ER Eq En V) sz)) 0 0 (va_A (wd3 cI cJ cP h ad ad0 ad1 I R CI CJ CR CG EI ER Eq En V) sz) := by
  unfold qX3_chosenShowing at hq
  refine Met.ofW (cc := cX3_chosenShowing) (maxL := 4) (ret := (some .int)) (by decide) rfl ?_
  intro p e s m args below meth c s₁ B hml hv
  obtain ⟨rfl, ⟨hsz, hP, hK, hD0⟩, hn⟩ := hv
  have hx := B.exec
  have hb := B.bytes
  have hr := B.returns
  have hts := atoms_spec (ws := wsX3_chosenShowing) B.pre
  have hown : s.vm.findClass RX3 = some m.cls := findClass_of_methodNamed B.named
  have hlocks := B.notSynchronized
  subst hsz
  have hD := hD0.self (sz := s.heap.size)
  generalize hAe : va_A (wd3 cI cJ cP h ad ad0 ad1 I R CI CJ CR CG EI ER Eq En V) s.heap.size = A at hD ⊢
  have hA : ∀ q : Nat, s.heap.size ≤ q → A q := fun q h => by rw [← hAe]; exact Or.inr h
  have hS : va_S A s.heap s.heap [] := va_S.rf
  have hZ : zX3_chosenShowing post p1 I R CI CJ CR CG EI ER Eq En V
      (fun (x2 : Int32) (x3 : Int32) => ∀ (H : Heap) (locs : List Loc) (ls : Array Slot), va_P (dC, dI) vwCl (wd3 cI cJ cP h ad ad0 ad1 I R CI CJ CR CG EI ER Eq En V) H → va_D A (wd3 cI cJ cP h ad ad0 ad1 I R CI CJ CR CG EI ER Eq En V) → va_S A s.heap H locs → lv_has ls 4 [(0, .ref h), (1, .int p1), (2, .int x2), (3, .int x3)] → W p l e (headSpec wsX3_chosenShowing ({ frames := 2, cells := 0, slots := 0, locals := 43 } : Room)).room s m ([.ref h, .int p1] : List Value).toArray below meth c H locs 0 0 (MQ below (va_Qi (fun r (_ : Unit) => post r ) (wAt (dC, dI) vwCl [(cI, .int), (cJ, .long), (cP, .object "YearBook$Picture")] A (fun _ : Unit => wd3 cI cJ cP h ad ad0 ad1 I R CI CJ CR CG EI ER Eq En V)) A) ([.ref h, .int p1] : List Value).toArray s 0 0 A) (F0 m 4 ls [])) := by
    unfold zX3_chosenShowing
    intro x2 x3 hq H locs ls hP hD hS hl
    refine lv_iload_n hx hb dX3_chosenShowing_4 rfl (lv_at hl 3 rfl) ?_
    refine lv_aload_n hx hb dX3_chosenShowing_5 rfl (lv_at hl 0 rfl) ?_
    refine va_get (D := (dC, dI)) (ci := 3) (v := .int (I 4)) (C := RX3) (T := TX3) (N := 9) hx hb hts nX3_chosenShowing_X3 hown hK hP 0 rfl rfl 4 (by decide) (hts _ mX3_chosenShowing_f51) (fun _ h9 => h9) rfl dX3_chosenShowing_6 ?_
    refine lv_icmp_ge (tgt := 39) hx hb dX3_chosenShowing_9 (by decide) (fun hc => ?_) (fun hc => ?_)
    · have hq := hq.1 hc
      refine lv_iload_n hx hb dX3_chosenShowing_39 rfl (lv_at hl 2 rfl) ?_
      exact w_iret (post := fun r (_ : Unit) => post r ) (wf := fun _ : Unit => wd3 cI cJ cP h ad ad0 ad1 I R CI CJ CR CG EI ER Eq En V) (u := ()) hx hb hr hK hP hD hS hq dX3_chosenShowing_40 hlocks
    · have hq := hq.2 hc
      refine lv_aload_n hx hb dX3_chosenShowing_12 rfl (lv_at hl 0 rfl) ?_
      refine lv_iload_n hx hb dX3_chosenShowing_13 rfl (lv_at hl 3 rfl) ?_
      obtain ⟨Pc_1, hc, hq⟩ := hq
      refine w_calli (wf := fun _ : Unit => wd3 cI cJ cP h ad ad0 ad1 I R CI CJ CR CG EI ER Eq En V) (va_runV (As := [.int x3]) (rest := []) ⟨hx, hb, hml, hown, hts⟩ (tX3_isChosen l dC dI cI cJ cP h ad ad0 ad1 _ Pc_1 x3 I R CI CJ CR CG EI ER Eq En V hc) (cwV 1 hts gX3_chosenShowing_X3_isChosen rfl rfl rfl (by decide +kernel) ⟨Nat.le_of_ble_eq_true rfl, Nat.le_of_ble_eq_true rfl⟩) (wPreVN hn hK hP hD (ci := 3) (q0 := 0) rfl rfl) rfl rfl hl.1 rfl (lv_room (Nat.le_of_ble_eq_true rfl)) dX3_chosenShowing_14 ⟨Nat.le_of_ble_eq_true rfl, Nat.le_of_ble_eq_true rfl⟩) hD hS hA (fun rc_1 u H locs hp hP hD hS => ?_)
      have hq := hq rc_1 hp
      have hP : va_P (dC, dI) vwCl (wd3 cI cJ cP h ad ad0 ad1 I R CI CJ CR CG EI ER Eq En V) H := hP
      have hD : va_D A (wd3 cI cJ cP h ad ad0 ad1 I R CI CJ CR CG EI ER Eq En V) := hD
      refine lv_if_eq (tgt := 33) hx hb dX3_chosenShowing_17 (by decide) (fun hc => ?_) (fun hc => ?_)
      · have hq := hq.1 hc
        refine lv_iinc (v := x3 + (1 : Int32)) (lv' := [(3, .int (x3 + (1 : Int32))), (0, .ref h), (1, .int p1), (2, .int x2)]) hx hb dX3_chosenShowing_33 hl (k := 3) rfl rfl (by decide) rfl (fun ls hl => ?_)
        refine lv_goto (tgt := 4) hx hb dX3_chosenShowing_36 (by decide) ?_
        exact hq _ _ ls hP hD hS (lv_sub hl [1, 2, 3, 0] rfl)
      · have hq := hq.2 hc
        refine lv_aload_n hx hb dX3_chosenShowing_20 rfl (lv_at hl 0 rfl) ?_
        refine lv_iload_n hx hb dX3_chosenShowing_21 rfl (lv_at hl 3 rfl) ?_
        obtain ⟨Pc_2, hc, hq⟩ := hq
        refine w_calli (wf := fun _ : Unit => wd3 cI cJ cP h ad ad0 ad1 I R CI CJ CR CG EI ER Eq En V) (va_runV (As := [.int x3]) (rest := []) ⟨hx, hb, hml, hown, hts⟩ (tX3_shownIn l dC dI cI cJ cP h ad ad0 ad1 _ Pc_2 x3 I R CI CJ CR CG EI ER Eq En V hc) (cwV 1 hts gX3_chosenShowing_X3_shownIn rfl rfl rfl (by decide +kernel) ⟨Nat.le_of_ble_eq_true rfl, Nat.le_of_ble_eq_true rfl⟩) (wPreVN hn hK hP hD (ci := 3) (q0 := 0) rfl rfl) rfl rfl hl.1 rfl (lv_room (Nat.le_of_ble_eq_true rfl)) dX3_chosenShowing_22 ⟨Nat.le_of_ble_eq_true rfl, Nat.le_of_ble_eq_true rfl⟩) hD hS hA (fun rc_2 u H locs hp hP hD hS => ?_)
        have hq := hq rc_2 hp
        have hP : va_P (dC, dI) vwCl (wd3 cI cJ cP h ad ad0 ad1 I R CI CJ CR CG EI ER Eq En V) H := hP
        have hD : va_D A (wd3 cI cJ cP h ad ad0 ad1 I R CI CJ CR CG EI ER Eq En V) := hD
        refine lv_iload_n hx hb dX3_chosenShowing_25 rfl (lv_at hl 1 rfl) ?_
        refine lv_iand hx hb dX3_chosenShowing_26 ?_
        refine lv_if_eq (tgt := 33) hx hb dX3_chosenShowing_27 (by decide) (fun hc => ?_) (fun hc => ?_)
        · have hq := hq.1 hc
          refine lv_iinc (v := x3 + (1 : Int32)) (lv' := [(3, .int (x3 + (1 : Int32))), (0, .ref h), (1, .int p1), (2, .int x2)]) hx hb dX3_chosenShowing_33 hl (k := 3) rfl rfl (by decide) rfl (fun ls hl => ?_)
          refine lv_goto (tgt := 4) hx hb dX3_chosenShowing_36 (by decide) ?_
          exact hq _ _ ls hP hD hS (lv_sub hl [1, 2, 3, 0] rfl)
        · have hq := hq.2 hc
          refine lv_iinc (v := x2 + (1 : Int32)) (lv' := [(2, .int (x2 + (1 : Int32))), (0, .ref h), (1, .int p1), (3, .int x3)]) hx hb dX3_chosenShowing_30 hl (k := 2) rfl rfl (by decide) rfl (fun ls hl => ?_)
          refine lv_iinc (v := x3 + (1 : Int32)) (lv' := [(3, .int (x3 + (1 : Int32))), (2, .int (x2 + (1 : Int32))), (0, .ref h), (1, .int p1)]) hx hb dX3_chosenShowing_33 hl (k := 3) rfl rfl (by decide) rfl (fun ls hl => ?_)
          refine lv_goto (tgt := 4) hx hb dX3_chosenShowing_36 (by decide) ?_
          exact hq _ _ ls hP hD hS (lv_sub hl [2, 3, 1, 0] rfl)
  have hl := lv_entry ([.ref h, .int p1]) (n := 4) (Nat.le_of_ble_eq_true rfl)
  rw [lg_entry_eq]
  generalize (lg_sl ([.ref h, .int p1]) ++ List.replicate (4 - (lg_sl ([.ref h, .int p1])).length) Slot.unset).toArray = ls at hl ⊢
  have hl : lv_has ls 4 [(0, .ref h), (1, .int p1)] := hl
  refine lv_iconst (v := (0 : Int32)) hx hb dX3_chosenShowing_0 (by decide) ?_
  refine lv_istore_n (lv' := [(2, .int (0 : Int32)), (0, .ref h), (1, .int p1)]) hx hb dX3_chosenShowing_1 rfl hl (by decide) rfl (fun ls hl => ?_)
  refine lv_iconst (v := (0 : Int32)) hx hb dX3_chosenShowing_2 (by decide) ?_
  refine lv_istore_n (lv' := [(3, .int (0 : Int32)), (2, .int (0 : Int32)), (0, .ref h), (1, .int p1)]) hx hb dX3_chosenShowing_3 rfl hl (by decide) rfl (fun ls hl => ?_)
  exact hq _ hZ _ _ ls hP hD hS (lv_sub hl [2, 3, 1, 0] rfl)
def qX3_isChild (post : Int32 → Prop) (p1 : Int32) (I : Nat → Int32) (R : Nat → Nat → Int32) (CI : Nat → Int32) (CJ : Nat → Int64) (CR : Nat → Nat → Int32) (CG : Nat → Nat → Int64) (EI : Nat → Int32) (ER : Nat → Nat → Int32) (Eq : Nat) (En : Nat) (V : vS) : Prop := ((p1 < 0) → (post (0 : Int32))) ∧ ((¬ p1 < 0) → ((((I 2) ≤ p1) → (post (0 : Int32))) ∧ ((¬ (I 2) ≤ p1) → (post (1 : Int32)))))
theorem mX3_isChild_f43 : Cond.fieldLink RX3 43 "YearBook" "children" "I" ∈ wsX3_isChild := by decide +kernel
theorem nX3_isChild_X3 : ∀ w ∈ u_ws RX3 TX3 9, w ∈ wsX3_isChild := by decide +kernel
set_option maxHeartbeats 4000000 in
set_option maxRecDepth 100000 in
theorem tX3_isChild (l : Launch) (dC : Nat → ClassId) (dI : Nat → Nat → Nat) (cI : ClassId) (cJ : ClassId) (cP : ClassId) (h : Nat) (ad ad0 ad1 : Nat → Nat)  (sz : Nat) (post : Int32 → Prop) (p1 : Int32) (I : Nat → Int32) (R : Nat → Nat → Int32) (CI : Nat → Int32) (CJ : Nat → Int64) (CR : Nat → Nat → Int32) (CG : Nat → Nat → Int64) (EI : Nat → Int32) (ER : Nat → Nat → Int32) (Eq : Nat) (En : Nat) (V : vS) (hq : qX3_isChild post p1 I R CI CJ CR CG EI ER Eq En V) : Met l yX3_isChild wsX3_isChild ({ frames := 0, cells := 0, slots := 0, locals := 0 } : Room) (va_Pc [.ref h, .int p1] (wPreN (dC, dI) vwCl [(cI, .int), (cJ, .long), (cP, .object "YearBook$Picture")] (wd3 cI cJ cP h ad ad0 ad1 I R CI CJ CR CG EI ER Eq En V) sz)) (va_Qi (fun r (_ : Unit) => post r ) (wAt (dC, dI) vwCl [(cI, .int), (cJ, .long), (cP, .object "YearBook$Picture")] (va_A (wd3 cI cJ cP h ad ad0 ad1 I R CI CJ CR CG EI ER Eq En V) sz) (fun _ : Unit => wd3 cI cJ cP h ad ad0 ad1 I R CI CJ CR CG EI ER Eq En V)) (va_A (wd3 cI cJ cP h ad ad0 ad1 I R CI CJ CR CG EI ER Eq En V) sz)) 0 0 (va_A (wd3 cI cJ cP h ad ad0 ad1 I R CI CJ CR CG EI ER Eq En V) sz) := by
  unfold qX3_isChild at hq
  refine Met.ofW (cc := cX3_isChild) (maxL := 2) (ret := (some .boolean)) (by decide) rfl ?_
  intro p e s m args below meth c s₁ B hml hv
  obtain ⟨rfl, ⟨hsz, hP, hK, hD0⟩, hn⟩ := hv
  have hx := B.exec
  have hb := B.bytes
  have hr := B.returns
  have hts := atoms_spec (ws := wsX3_isChild) B.pre
  have hown : s.vm.findClass RX3 = some m.cls := findClass_of_methodNamed B.named
  have hlocks := B.notSynchronized
  subst hsz
  have hD := hD0.self (sz := s.heap.size)
  generalize hAe : va_A (wd3 cI cJ cP h ad ad0 ad1 I R CI CJ CR CG EI ER Eq En V) s.heap.size = A at hD ⊢
  have hA : ∀ q : Nat, s.heap.size ≤ q → A q := fun q h => by rw [← hAe]; exact Or.inr h
  have hS : va_S A s.heap s.heap [] := va_S.rf
  have hl := lv_entry ([.ref h, .int p1]) (n := 2) (Nat.le_of_ble_eq_true rfl)
  rw [lg_entry_eq]
  generalize (lg_sl ([.ref h, .int p1]) ++ List.replicate (2 - (lg_sl ([.ref h, .int p1])).length) Slot.unset).toArray = ls at hl ⊢
  have hl : lv_has ls 2 [(0, .ref h), (1, .int p1)] := hl
  refine lv_iload_n hx hb dX3_isChild_0 rfl (lv_at hl 1 rfl) ?_
  refine lv_if_lt (tgt := 16) hx hb dX3_isChild_1 (by decide) (fun hc => ?_) (fun hc => ?_)
  · have hq := hq.1 hc
    refine lv_iconst (v := (0 : Int32)) hx hb dX3_isChild_16 (by decide) ?_
    exact w_zret (post := fun r (_ : Unit) => post r ) (wf := fun _ : Unit => wd3 cI cJ cP h ad ad0 ad1 I R CI CJ CR CG EI ER Eq En V) (u := ()) hx hb hr rfl hK hP hD hS hq dX3_isChild_17 hlocks
  · have hq := hq.2 hc
    refine lv_iload_n hx hb dX3_isChild_4 rfl (lv_at hl 1 rfl) ?_
    refine lv_aload_n hx hb dX3_isChild_5 rfl (lv_at hl 0 rfl) ?_
    refine va_get (D := (dC, dI)) (ci := 3) (v := .int (I 2)) (C := RX3) (T := TX3) (N := 9) hx hb hts nX3_isChild_X3 hown hK hP 0 rfl rfl 2 (by decide) (hts _ mX3_isChild_f43) (fun _ h9 => h9) rfl dX3_isChild_6 ?_
    refine lv_icmp_ge (tgt := 16) hx hb dX3_isChild_9 (by decide) (fun hc => ?_) (fun hc => ?_)
    · have hq := hq.1 hc
      refine lv_iconst (v := (0 : Int32)) hx hb dX3_isChild_16 (by decide) ?_
      exact w_zret (post := fun r (_ : Unit) => post r ) (wf := fun _ : Unit => wd3 cI cJ cP h ad ad0 ad1 I R CI CJ CR CG EI ER Eq En V) (u := ()) hx hb hr rfl hK hP hD hS hq dX3_isChild_17 hlocks
    · have hq := hq.2 hc
      refine lv_iconst (v := (1 : Int32)) hx hb dX3_isChild_12 (by decide) ?_
      refine lv_goto (tgt := 17) hx hb dX3_isChild_13 (by decide) ?_
      exact w_zret (post := fun r (_ : Unit) => post r ) (wf := fun _ : Unit => wd3 cI cJ cP h ad ad0 ad1 I R CI CJ CR CG EI ER Eq En V) (u := ()) hx hb hr rfl hK hP hD hS hq dX3_isChild_17 hlocks
def zX3_consent (post : Int32 → (Nat → Int32) → (Nat → Nat → Int32) → (Nat → Int32) → (Nat → Int64) → (Nat → Nat → Int32) → (Nat → Nat → Int64) → (Nat → Int32) → (Nat → Nat → Int32) → Nat → Nat → vS → Prop) (p1 : Int32) (p2 : Int32) (X37 : Int32 → Int32 → (Nat → Int32) → (Nat → Nat → Int32) → (Nat → Int32) → (Nat → Int64) → (Nat → Nat → Int32) → (Nat → Nat → Int64) → (Nat → Int32) → (Nat → Nat → Int32) → Nat → Nat → vS → Prop) : Prop :=
  (∀ (x3 : Int32) (x4 : Int32) (I : Nat → Int32) (R : Nat → Nat → Int32) (CI : Nat → Int32) (CJ : Nat → Int64) (CR : Nat → Nat → Int32) (CG : Nat → Nat → Int64) (EI : Nat → Int32) (ER : Nat → Nat → Int32) (Eq : Nat) (En : Nat) (V : vS), ((((I 4) ≤ x4) → (post x3 I R CI CJ CR CG EI ER Eq En V)) ∧ ((¬ (I 4) ≤ x4) → ((I 4) = nI (pvN V) ∧ pvN V ≤ 14 ∧ ((x4 < 0 ∨ (I 4) ≤ x4) → (X37 x3 (x4 + (1 : Int32)) I R CI CJ CR CG EI ER Eq En V)) ∧ (∀ k_5 : Nat, k_5 < pvN V → x4 = nI k_5 → (∃ Pc_6 : (Nat → Int32) → (Nat → Nat → Int32) → Prop, qX2_look Pc_6  (R 1) (pvI V k_5) (pvR V k_5) ∧ (∀ (Ipc_6 : Nat → Int32) (Rpc_6 : Nat → Nat → Int32), Pc_6 Ipc_6 Rpc_6 → (X37 x3 (x4 + (1 : Int32)) I R CI CJ CR CG EI ER Eq En (pvW V k_5 Ipc_6 Rpc_6)))))))) → X37 x3 x4 I R CI CJ CR CG EI ER Eq En V)
def qX3_consent_37 (post : Int32 → (Nat → Int32) → (Nat → Nat → Int32) → (Nat → Int32) → (Nat → Int64) → (Nat → Nat → Int32) → (Nat → Nat → Int64) → (Nat → Int32) → (Nat → Nat → Int32) → Nat → Nat → vS → Prop) (p1 : Int32) (p2 : Int32) (x3 : Int32) (x4 : Int32) (I : Nat → Int32) (R : Nat → Nat → Int32) (CI : Nat → Int32) (CJ : Nat → Int64) (CR : Nat → Nat → Int32) (CG : Nat → Nat → Int64) (EI : Nat → Int32) (ER : Nat → Nat → Int32) (Eq : Nat) (En : Nat) (V : vS) : Prop := ∀ (X37 : Int32 → Int32 → (Nat → Int32) → (Nat → Nat → Int32) → (Nat → Int32) → (Nat → Int64) → (Nat → Nat → Int32) → (Nat → Nat → Int64) → (Nat → Int32) → (Nat → Nat → Int32) → Nat → Nat → vS → Prop), zX3_consent post p1 p2 X37 → X37 x3 x4 I R CI CJ CR CG EI ER Eq En V
theorem kX3_consent_37 {post : Int32 → (Nat → Int32) → (Nat → Nat → Int32) → (Nat → Int32) → (Nat → Int64) → (Nat → Nat → Int32) → (Nat → Nat → Int64) → (Nat → Int32) → (Nat → Nat → Int32) → Nat → Nat → vS → Prop} {p1 : Int32} {p2 : Int32} {x3 : Int32} {x4 : Int32} {I : Nat → Int32} {R : Nat → Nat → Int32} {CI : Nat → Int32} {CJ : Nat → Int64} {CR : Nat → Nat → Int32} {CG : Nat → Nat → Int64} {EI : Nat → Int32} {ER : Nat → Nat → Int32} {Eq : Nat} {En : Nat} {V : vS} (h : (((I 4) ≤ x4) → (post x3 I R CI CJ CR CG EI ER Eq En V)) ∧ ((¬ (I 4) ≤ x4) → ((I 4) = nI (pvN V) ∧ pvN V ≤ 14 ∧ ((x4 < 0 ∨ (I 4) ≤ x4) → (qX3_consent_37 post p1 p2 x3 (x4 + (1 : Int32)) I R CI CJ CR CG EI ER Eq En V)) ∧ (∀ k_5 : Nat, k_5 < pvN V → x4 = nI k_5 → (∃ Pc_6 : (Nat → Int32) → (Nat → Nat → Int32) → Prop, qX2_look Pc_6  (R 1) (pvI V k_5) (pvR V k_5) ∧ (∀ (Ipc_6 : Nat → Int32) (Rpc_6 : Nat → Nat → Int32), Pc_6 Ipc_6 Rpc_6 → (qX3_consent_37 post p1 p2 x3 (x4 + (1 : Int32)) I R CI CJ CR CG EI ER Eq En (pvW V k_5 Ipc_6 Rpc_6)))))))) : qX3_consent_37 post p1 p2 x3 x4 I R CI CJ CR CG EI ER Eq En V := by
  intro Z37 hcl
  refine hcl x3 x4 I R CI CJ CR CG EI ER Eq En V ?_
  refine ⟨fun c => ?_, fun c => ?_⟩
  · have h := h.1 c
    exact h
  · have h := h.2 c
    refine ⟨h.1, h.2.1, fun c => ?_, fun k9 hk9 e9 => ?_⟩
    · have h := h.2.2.1 c
      exact h _ hcl
    · have h := h.2.2.2 k9 hk9 e9
      obtain ⟨P, h1, h2⟩ := h
      refine ⟨P, h1, fun b0 b1 hp => ?_⟩
      have h := h2 b0 b1 hp
      exact h _ hcl
def qX3_consent (post : Int32 → (Nat → Int32) → (Nat → Nat → Int32) → (Nat → Int32) → (Nat → Int64) → (Nat → Nat → Int32) → (Nat → Nat → Int64) → (Nat → Int32) → (Nat → Nat → Int32) → Nat → Nat → vS → Prop) (p1 : Int32) (p2 : Int32) (I : Nat → Int32) (R : Nat → Nat → Int32) (CI : Nat → Int32) (CJ : Nat → Int64) (CR : Nat → Nat → Int32) (CG : Nat → Nat → Int64) (EI : Nat → Int32) (ER : Nat → Nat → Int32) (Eq : Nat) (En : Nat) (V : vS) : Prop := ∃ Pc_1 : Int32 → Prop, qX3_isChild Pc_1 p1 I R CI CJ CR CG EI ER Eq En V ∧ (∀ (rc_1 : Int32), Pc_1 rc_1 → (((rc_1 = 0) → (post (-1 : Int32) I R CI CJ CR CG EI ER Eq En V)) ∧ ((¬ rc_1 = 0) → (∃ Pc_2 : Int32 → Prop, qX3_within Pc_2 p2 (0 : Int32) (7 : Int32) ∧ (∀ (rc_2 : Int32), Pc_2 rc_2 → (((¬ rc_2 = 0) → (vp_in p1 16 ∧ (∀ x3_4 : Int32, x3_4 = R 1 p1.toNatClampNeg → (qX3_consent_37 post p1 p2 x3_4 (0 : Int32) I (va_up R 1 (upd (R 1) p1.toNatClampNeg p2)) CI CJ CR CG EI ER Eq En V)))) ∧ ((rc_2 = 0) → (post (-1 : Int32) I R CI CJ CR CG EI ER Eq En V))))))))
theorem mX3_consent_f13 : Cond.fieldLink RX3 13 "YearBook" "consents" "[I" ∈ wsX3_consent := by decide +kernel
theorem nX3_consent_X3 : ∀ w ∈ u_ws RX3 TX3 9, w ∈ wsX3_consent := by decide +kernel
theorem mX3_consent_f51 : Cond.fieldLink RX3 51 "YearBook" "pictureCount" "I" ∈ wsX3_consent := by decide +kernel
set_option maxHeartbeats 4000000 in
set_option maxRecDepth 100000 in
theorem tX3_consent (l : Launch) (dC : Nat → ClassId) (dI : Nat → Nat → Nat) (cI : ClassId) (cJ : ClassId) (cP : ClassId) (h : Nat) (ad ad0 ad1 : Nat → Nat)  (sz : Nat) (post : Int32 → (Nat → Int32) → (Nat → Nat → Int32) → (Nat → Int32) → (Nat → Int64) → (Nat → Nat → Int32) → (Nat → Nat → Int64) → (Nat → Int32) → (Nat → Nat → Int32) → Nat → Nat → vS → Prop) (p1 : Int32) (p2 : Int32) (I : Nat → Int32) (R : Nat → Nat → Int32) (CI : Nat → Int32) (CJ : Nat → Int64) (CR : Nat → Nat → Int32) (CG : Nat → Nat → Int64) (EI : Nat → Int32) (ER : Nat → Nat → Int32) (Eq : Nat) (En : Nat) (V : vS) (hq : qX3_consent post p1 p2 I R CI CJ CR CG EI ER Eq En V) : Met l yX3_consent wsX3_consent ({ frames := 3, cells := 0, slots := 0, locals := 75 } : Room) (va_Pc [.ref h, .int p1, .int p2] (wPreN (dC, dI) vwCl [(cI, .int), (cJ, .long), (cP, .object "YearBook$Picture")] (wd3 cI cJ cP h ad ad0 ad1 I R CI CJ CR CG EI ER Eq En V) sz)) (va_Qi (fun r (u : (Nat → Int32) × (Nat → Nat → Int32) × (Nat → Int32) × (Nat → Int64) × (Nat → Nat → Int32) × (Nat → Nat → Int64) × (Nat → Int32) × (Nat → Nat → Int32) × (Nat) × (Nat) × (vS)) => post r u.1 u.2.1 u.2.2.1 u.2.2.2.1 u.2.2.2.2.1 u.2.2.2.2.2.1 u.2.2.2.2.2.2.1 u.2.2.2.2.2.2.2.1 u.2.2.2.2.2.2.2.2.1 u.2.2.2.2.2.2.2.2.2.1 u.2.2.2.2.2.2.2.2.2.2) (wAt (dC, dI) vwCl [(cI, .int), (cJ, .long), (cP, .object "YearBook$Picture")] (va_A (wd3 cI cJ cP h ad ad0 ad1 I R CI CJ CR CG EI ER Eq En V) sz) (fun u : (Nat → Int32) × (Nat → Nat → Int32) × (Nat → Int32) × (Nat → Int64) × (Nat → Nat → Int32) × (Nat → Nat → Int64) × (Nat → Int32) × (Nat → Nat → Int32) × (Nat) × (Nat) × (vS) => wd3 cI cJ cP h ad ad0 ad1 u.1 u.2.1 u.2.2.1 u.2.2.2.1 u.2.2.2.2.1 u.2.2.2.2.2.1 u.2.2.2.2.2.2.1 u.2.2.2.2.2.2.2.1 u.2.2.2.2.2.2.2.2.1 u.2.2.2.2.2.2.2.2.2.1 u.2.2.2.2.2.2.2.2.2.2)) (va_A (wd3 cI cJ cP h ad ad0 ad1 I R CI CJ CR CG EI ER Eq En V) sz)) 0 0 (va_A (wd3 cI cJ cP h ad ad0 ad1 I R CI CJ CR CG EI ER Eq En V) sz) := by
  unfold qX3_consent at hq
  refine Met.ofW (cc := cX3_consent) (maxL := 6) (ret := (some .int)) (by decide) rfl ?_
  intro p e s m args below meth c s₁ B hml hv
  obtain ⟨rfl, ⟨hsz, hP, hK, hD0⟩, hn⟩ := hv
  have hx := B.exec
  have hb := B.bytes
  have hr := B.returns
  have hts := atoms_spec (ws := wsX3_consent) B.pre
  have hown : s.vm.findClass RX3 = some m.cls := findClass_of_methodNamed B.named
  have hlocks := B.notSynchronized
  subst hsz
  have hD := hD0.self (sz := s.heap.size)
  generalize hAe : va_A (wd3 cI cJ cP h ad ad0 ad1 I R CI CJ CR CG EI ER Eq En V) s.heap.size = A at hD ⊢
  have hA : ∀ q : Nat, s.heap.size ≤ q → A q := fun q h => by rw [← hAe]; exact Or.inr h
  have hS : va_S A s.heap s.heap [] := va_S.rf
  have hZ : zX3_consent post p1 p2
      (fun (x3 : Int32) (x4 : Int32) (I : Nat → Int32) (R : Nat → Nat → Int32) (CI : Nat → Int32) (CJ : Nat → Int64) (CR : Nat → Nat → Int32) (CG : Nat → Nat → Int64) (EI : Nat → Int32) (ER : Nat → Nat → Int32) (Eq : Nat) (En : Nat) (V : vS) => ∀ (H : Heap) (locs : List Loc) (ls : Array Slot), va_P (dC, dI) vwCl (wd3 cI cJ cP h ad ad0 ad1 I R CI CJ CR CG EI ER Eq En V) H → va_D A (wd3 cI cJ cP h ad ad0 ad1 I R CI CJ CR CG EI ER Eq En V) → va_S A s.heap H locs → lv_has ls 6 [(0, .ref h), (3, .int x3), (4, .int x4)] → W p l e (headSpec wsX3_consent ({ frames := 3, cells := 0, slots := 0, locals := 75 } : Room)).room s m ([.ref h, .int p1, .int p2] : List Value).toArray below meth c H locs 0 0 (MQ below (va_Qi (fun r (u : (Nat → Int32) × (Nat → Nat → Int32) × (Nat → Int32) × (Nat → Int64) × (Nat → Nat → Int32) × (Nat → Nat → Int64) × (Nat → Int32) × (Nat → Nat → Int32) × (Nat) × (Nat) × (vS)) => post r u.1 u.2.1 u.2.2.1 u.2.2.2.1 u.2.2.2.2.1 u.2.2.2.2.2.1 u.2.2.2.2.2.2.1 u.2.2.2.2.2.2.2.1 u.2.2.2.2.2.2.2.2.1 u.2.2.2.2.2.2.2.2.2.1 u.2.2.2.2.2.2.2.2.2.2) (wAt (dC, dI) vwCl [(cI, .int), (cJ, .long), (cP, .object "YearBook$Picture")] A (fun u : (Nat → Int32) × (Nat → Nat → Int32) × (Nat → Int32) × (Nat → Int64) × (Nat → Nat → Int32) × (Nat → Nat → Int64) × (Nat → Int32) × (Nat → Nat → Int32) × (Nat) × (Nat) × (vS) => wd3 cI cJ cP h ad ad0 ad1 u.1 u.2.1 u.2.2.1 u.2.2.2.1 u.2.2.2.2.1 u.2.2.2.2.2.1 u.2.2.2.2.2.2.1 u.2.2.2.2.2.2.2.1 u.2.2.2.2.2.2.2.2.1 u.2.2.2.2.2.2.2.2.2.1 u.2.2.2.2.2.2.2.2.2.2)) A) ([.ref h, .int p1, .int p2] : List Value).toArray s 0 0 A) (F0 m 37 ls [])) := by
    unfold zX3_consent
    intro x3 x4 I R CI CJ CR CG EI ER Eq En V hq H locs ls hP hD hS hl
    refine lv_iload hx hb dX3_consent_37 (lv_at hl 2 rfl) ?_
    refine lv_aload_n hx hb dX3_consent_39 rfl (lv_at hl 0 rfl) ?_
    refine va_get (D := (dC, dI)) (ci := 3) (v := .int (I 4)) (C := RX3) (T := TX3) (N := 9) hx hb hts nX3_consent_X3 hown hK hP 0 rfl rfl 4 (by decide) (hts _ mX3_consent_f51) (fun _ h9 => h9) rfl dX3_consent_40 ?_
    refine lv_icmp_ge (tgt := 74) hx hb dX3_consent_43 (by decide) (fun hc => ?_) (fun hc => ?_)
    · have hq := hq.1 hc
      refine lv_iload_n hx hb dX3_consent_74 rfl (lv_at hl 1 rfl) ?_
      exact w_iret (post := fun r (u : (Nat → Int32) × (Nat → Nat → Int32) × (Nat → Int32) × (Nat → Int64) × (Nat → Nat → Int32) × (Nat → Nat → Int64) × (Nat → Int32) × (Nat → Nat → Int32) × (Nat) × (Nat) × (vS)) => post r u.1 u.2.1 u.2.2.1 u.2.2.2.1 u.2.2.2.2.1 u.2.2.2.2.2.1 u.2.2.2.2.2.2.1 u.2.2.2.2.2.2.2.1 u.2.2.2.2.2.2.2.2.1 u.2.2.2.2.2.2.2.2.2.1 u.2.2.2.2.2.2.2.2.2.2) (wf := fun u : (Nat → Int32) × (Nat → Nat → Int32) × (Nat → Int32) × (Nat → Int64) × (Nat → Nat → Int32) × (Nat → Nat → Int64) × (Nat → Int32) × (Nat → Nat → Int32) × (Nat) × (Nat) × (vS) => wd3 cI cJ cP h ad ad0 ad1 u.1 u.2.1 u.2.2.1 u.2.2.2.1 u.2.2.2.2.1 u.2.2.2.2.2.1 u.2.2.2.2.2.2.1 u.2.2.2.2.2.2.2.1 u.2.2.2.2.2.2.2.2.1 u.2.2.2.2.2.2.2.2.2.1 u.2.2.2.2.2.2.2.2.2.2) (u := (I, R, CI, CJ, CR, CG, EI, ER, Eq, En, V)) hx hb hr hK hP hD hS hq dX3_consent_75 hlocks
    · have hq := hq.2 hc
      refine lv_aload_n hx hb dX3_consent_46 rfl (lv_at hl 0 rfl) ?_
      refine lv_iload hx hb dX3_consent_47 (lv_at hl 2 rfl) ?_
      obtain ⟨hI9, hN9, hq1, hq2⟩ := hq
      refine w_callq (wf := fun _ : Unit => wd3 cI cJ cP h ad ad0 ad1 I R CI CJ CR CG EI ER Eq En V) (va_runV (As := [.int x4]) (rest := []) ⟨hx, hb, hml, hown, hts⟩ (tX3_pictureAt l dC dI cI cJ cP h ad ad0 ad1 _ x4 I R CI CJ CR CG EI ER Eq En V hI9 hN9) (cwV 1 hts gX3_consent_X3_pictureAt rfl rfl rfl (by decide +kernel) ⟨Nat.le_of_ble_eq_true rfl, Nat.le_of_ble_eq_true rfl⟩) (wPreVN hn hK hP hD (ci := 3) (q0 := 0) rfl rfl) rfl rfl hl.1 rfl (lv_room (Nat.le_of_ble_eq_true rfl)) dX3_consent_49 ⟨Nat.le_of_ble_eq_true rfl, Nat.le_of_ble_eq_true rfl⟩) hD hS hA (fun r9 u9 H locs hp9 hP hD hS => ?_)
      have hP : va_P (dC, dI) vwCl (wd3 cI cJ cP h ad ad0 ad1 I R CI CJ CR CG EI ER Eq En V) H := hP
      have hD : va_D A (wd3 cI cJ cP h ad ad0 ad1 I R CI CJ CR CG EI ER Eq En V) := hD
      rcases hp9 with ⟨hc9, rfl⟩ | ⟨k_5, hk_5, ek_5, rfl⟩
      · have hq := hq1 hc9
        refine lv_astoreN (lv' := [(5, .null), (0, .ref h), (3, .int x3), (4, .int x4)]) hx hb dX3_consent_52 hl (by decide) rfl (fun ls hl => ?_)
        refine lv_aloadN hx hb dX3_consent_54 (lv_at hl 0 rfl) ?_
        refine lv_ifnullN (tgt := 68) hx hb dX3_consent_56 (by decide) ?_
        refine lv_iinc (v := x4 + (1 : Int32)) (lv' := [(4, .int (x4 + (1 : Int32))), (5, .null), (0, .ref h), (3, .int x3)]) hx hb dX3_consent_68 hl (k := 3) rfl rfl (by decide) rfl (fun ls hl => ?_)
        refine lv_goto (tgt := 37) hx hb dX3_consent_71 (by decide) ?_
        exact hq _ _ ls hP hD hS (lv_sub hl [2, 3, 0] rfl)
      · have hq := hq2 k_5 hk_5 ek_5
        refine lv_astore (lv' := [(5, .ref (pvH V k_5)), (0, .ref h), (3, .int x3), (4, .int x4)]) hx hb dX3_consent_52 hl (by decide) rfl (fun ls hl => ?_)
        refine lv_aload hx hb dX3_consent_54 (lv_at hl 0 rfl) ?_
        refine lv_ifnull hx hb dX3_consent_56 ?_
        refine lv_aload hx hb dX3_consent_59 (lv_at hl 0 rfl) ?_
        refine lv_aload_n hx hb dX3_consent_61 rfl (lv_at hl 1 rfl) ?_
        refine va_get (D := (dC, dI)) (ci := 3) (v := .ref (ad 1)) (C := RX3) (T := TX3) (N := 9) hx hb hts nX3_consent_X3 hown hK hP 0 rfl rfl 1 (by decide) (hts _ mX3_consent_f13) (fun _ h9 => h9) rfl dX3_consent_62 ?_
        obtain ⟨Pc_6, hc, hq⟩ := hq
        obtain ⟨q0, hq0⟩ := pic_in cI cJ cP h ad ad0 ad1 I R CI CJ CR CG EI ER Eq En V hk_5
        refine w_callv (wf := fun u : (Nat → Int32) × (Nat → Nat → Int32) => wd3 cI cJ cP h ad ad0 ad1 I R CI CJ CR CG EI ER Eq En (pvW V k_5 u.1 u.2)) (va_runV (As := [.ref (ad 1)]) (rest := []) ⟨hx, hb, hml, hown, hts⟩ (Met_frame_v (w' := fun u : (Nat → Int32) × (Nat → Nat → Int32) => wd3 cI cJ cP h ad ad0 ad1 I R CI CJ CR CG EI ER Eq En (pvW V k_5 u.1 u.2)) (tys2 := [(cI, .int), (cJ, .long), (cP, .object "YearBook$Picture")]) (tX2_look l dC dI cI (pvH V k_5) (pvA V k_5) (ad 1) _ Pc_6  (R 1) (pvI V k_5) (pvR V k_5) hc) (p3l cI cJ cP h ad ad0 ad1 I R CI CJ CR CG EI ER Eq En V hk_5) (fun u => p3m cI cJ cP h ad ad0 ad1 I R CI CJ CR CG EI ER Eq En V hk_5 u.1 u.2) (fun U hU => hU.sub [0] rfl)) (cwV 1 hts gX3_consent_X2_look rfl rfl rfl (by decide +kernel) ⟨Nat.le_of_ble_eq_true rfl, Nat.le_of_ble_eq_true rfl⟩) (wPreV hK hP hD (ci := 2) (q0 := q0) rfl hq0) rfl rfl hl.1 rfl (lv_room (Nat.le_of_ble_eq_true rfl)) dX3_consent_65 ⟨Nat.le_of_ble_eq_true rfl, Nat.le_of_ble_eq_true rfl⟩) hD hS hA (fun u H locs hp hP hD hS => ?_)
        obtain ⟨Ipc_6, Rpc_6⟩ := u
        have hq := hq Ipc_6 Rpc_6 hp
        have hP : va_P (dC, dI) vwCl (wd3 cI cJ cP h ad ad0 ad1 I R CI CJ CR CG EI ER Eq En (pvW V k_5 Ipc_6 Rpc_6)) H := hP
        have hD : va_D A (wd3 cI cJ cP h ad ad0 ad1 I R CI CJ CR CG EI ER Eq En (pvW V k_5 Ipc_6 Rpc_6)) := hD
        refine lv_iinc (v := x4 + (1 : Int32)) (lv' := [(4, .int (x4 + (1 : Int32))), (5, .ref (pvH V k_5)), (0, .ref h), (3, .int x3)]) hx hb dX3_consent_68 hl (k := 3) rfl rfl (by decide) rfl (fun ls hl => ?_)
        refine lv_goto (tgt := 37) hx hb dX3_consent_71 (by decide) ?_
        exact hq _ _ ls hP hD hS (lv_sub hl [2, 3, 0] rfl)
  have hl := lv_entry ([.ref h, .int p1, .int p2]) (n := 6) (Nat.le_of_ble_eq_true rfl)
  rw [lg_entry_eq]
  generalize (lg_sl ([.ref h, .int p1, .int p2]) ++ List.replicate (6 - (lg_sl ([.ref h, .int p1, .int p2])).length) Slot.unset).toArray = ls at hl ⊢
  have hl : lv_has ls 6 [(0, .ref h), (1, .int p1), (2, .int p2)] := hl
  refine lv_aload_n hx hb dX3_consent_0 rfl (lv_at hl 0 rfl) ?_
  refine lv_iload_n hx hb dX3_consent_1 rfl (lv_at hl 1 rfl) ?_
  obtain ⟨Pc_1, hc, hq⟩ := hq
  refine w_calli (wf := fun _ : Unit => wd3 cI cJ cP h ad ad0 ad1 I R CI CJ CR CG EI ER Eq En V) (va_runV (As := [.int p1]) (rest := []) ⟨hx, hb, hml, hown, hts⟩ (tX3_isChild l dC dI cI cJ cP h ad ad0 ad1 _ Pc_1 p1 I R CI CJ CR CG EI ER Eq En V hc) (cwV 1 hts gX3_consent_X3_isChild rfl rfl rfl (by decide +kernel) ⟨Nat.le_of_ble_eq_true rfl, Nat.le_of_ble_eq_true rfl⟩) (wPreVN hn hK hP hD (ci := 3) (q0 := 0) rfl rfl) rfl rfl hl.1 rfl (lv_room (Nat.le_of_ble_eq_true rfl)) dX3_consent_2 ⟨Nat.le_of_ble_eq_true rfl, Nat.le_of_ble_eq_true rfl⟩) hD hS hA (fun rc_1 u H locs hp hP hD hS => ?_)
  have hq := hq rc_1 hp
  have hP : va_P (dC, dI) vwCl (wd3 cI cJ cP h ad ad0 ad1 I R CI CJ CR CG EI ER Eq En V) H := hP
  have hD : va_D A (wd3 cI cJ cP h ad ad0 ad1 I R CI CJ CR CG EI ER Eq En V) := hD
  refine lv_if_eq (tgt := 18) hx hb dX3_consent_5 (by decide) (fun hc => ?_) (fun hc => ?_)
  · have hq := hq.1 hc
    refine lv_iconst (v := (-1 : Int32)) hx hb dX3_consent_18 (by decide) ?_
    exact w_iret (post := fun r (u : (Nat → Int32) × (Nat → Nat → Int32) × (Nat → Int32) × (Nat → Int64) × (Nat → Nat → Int32) × (Nat → Nat → Int64) × (Nat → Int32) × (Nat → Nat → Int32) × (Nat) × (Nat) × (vS)) => post r u.1 u.2.1 u.2.2.1 u.2.2.2.1 u.2.2.2.2.1 u.2.2.2.2.2.1 u.2.2.2.2.2.2.1 u.2.2.2.2.2.2.2.1 u.2.2.2.2.2.2.2.2.1 u.2.2.2.2.2.2.2.2.2.1 u.2.2.2.2.2.2.2.2.2.2) (wf := fun u : (Nat → Int32) × (Nat → Nat → Int32) × (Nat → Int32) × (Nat → Int64) × (Nat → Nat → Int32) × (Nat → Nat → Int64) × (Nat → Int32) × (Nat → Nat → Int32) × (Nat) × (Nat) × (vS) => wd3 cI cJ cP h ad ad0 ad1 u.1 u.2.1 u.2.2.1 u.2.2.2.1 u.2.2.2.2.1 u.2.2.2.2.2.1 u.2.2.2.2.2.2.1 u.2.2.2.2.2.2.2.1 u.2.2.2.2.2.2.2.2.1 u.2.2.2.2.2.2.2.2.2.1 u.2.2.2.2.2.2.2.2.2.2) (u := (I, R, CI, CJ, CR, CG, EI, ER, Eq, En, V)) hx hb hr hK hP hD hS hq dX3_consent_19 hlocks
  · have hq := hq.2 hc
    refine lv_iload_n hx hb dX3_consent_8 rfl (lv_at hl 2 rfl) ?_
    refine lv_iconst (v := (0 : Int32)) hx hb dX3_consent_9 (by decide) ?_
    refine lv_bipush (v := (7 : Int32)) hx hb dX3_consent_10 (by decide) ?_
    obtain ⟨Pc_2, hc, hq⟩ := hq
    refine vp_callSi (W.runS (As := [.int p2, .int (0 : Int32), .int (7 : Int32)]) (rest := []) ⟨hx, hb, hml, hown, hts⟩ (tX3_within l Pc_2 p2 (0 : Int32) (7 : Int32) hc) (va_cwS 3 hts gX3_consent_X3_within rfl rfl rfl (by decide +kernel) ⟨Nat.le_of_ble_eq_true rfl, Nat.le_of_ble_eq_true rfl⟩) preEq rfl rfl hl.1 rfl (lv_room (Nat.le_of_ble_eq_true rfl)) dX3_consent_12 ⟨Nat.le_of_ble_eq_true rfl, Nat.le_of_ble_eq_true rfl⟩) (fun rc_2 hp => ?_)
    have hq := hq rc_2 hp
    refine lv_if_ne (tgt := 20) hx hb dX3_consent_15 (by decide) (fun hc => ?_) (fun hc => ?_)
    · have hq := hq.1 hc
      refine lv_aload_n hx hb dX3_consent_20 rfl (lv_at hl 0 rfl) ?_
      refine va_get (D := (dC, dI)) (ci := 3) (v := .ref (ad 1)) (C := RX3) (T := TX3) (N := 9) hx hb hts nX3_consent_X3 hown hK hP 0 rfl rfl 1 (by decide) (hts _ mX3_consent_f13) (fun _ h9 => h9) rfl dX3_consent_21 ?_
      refine lv_iload_n hx hb dX3_consent_24 rfl (lv_at hl 1 rfl) ?_
      obtain ⟨hi_3, hq⟩ := hq
      refine va_iald (f := R 1) hx hb hK hP 2 0 rfl rfl hi_3 dX3_consent_25 ?_
      refine lv_topi (fun x3_4 ex3_4 => ?_)
      have hq := hq x3_4 ex3_4
      refine lv_istore_n (lv' := [(3, .int x3_4), (0, .ref h), (1, .int p1), (2, .int p2)]) hx hb dX3_consent_26 rfl hl (by decide) rfl (fun ls hl => ?_)
      refine lv_aload_n hx hb dX3_consent_27 rfl (lv_at hl 1 rfl) ?_
      refine va_get (D := (dC, dI)) (ci := 3) (v := .ref (ad 1)) (C := RX3) (T := TX3) (N := 9) hx hb hts nX3_consent_X3 hown hK hP 0 rfl rfl 1 (by decide) (hts _ mX3_consent_f13) (fun _ h9 => h9) rfl dX3_consent_28 ?_
      refine lv_iload_n hx hb dX3_consent_31 rfl (lv_at hl 2 rfl) ?_
      refine lv_iload_n hx hb dX3_consent_32 rfl (lv_at hl 3 rfl) ?_
      refine va_iast (f := R 1) hx hb hK hP hD hS 2 0 rfl rfl hi_3 dX3_consent_33 (fun H locs hP hD hS => ?_)
      rw [wd3_R1] at hP hD
      refine lv_iconst (v := (0 : Int32)) hx hb dX3_consent_34 (by decide) ?_
      refine lv_istore (lv' := [(4, .int (0 : Int32)), (3, .int x3_4), (0, .ref h), (1, .int p1), (2, .int p2)]) hx hb dX3_consent_35 hl (by decide) rfl (fun ls hl => ?_)
      exact hq _ hZ _ _ ls hP hD hS (lv_sub hl [2, 1, 0] rfl)
    · have hq := hq.2 hc
      refine lv_iconst (v := (-1 : Int32)) hx hb dX3_consent_18 (by decide) ?_
      exact w_iret (post := fun r (u : (Nat → Int32) × (Nat → Nat → Int32) × (Nat → Int32) × (Nat → Int64) × (Nat → Nat → Int32) × (Nat → Nat → Int64) × (Nat → Int32) × (Nat → Nat → Int32) × (Nat) × (Nat) × (vS)) => post r u.1 u.2.1 u.2.2.1 u.2.2.2.1 u.2.2.2.2.1 u.2.2.2.2.2.1 u.2.2.2.2.2.2.1 u.2.2.2.2.2.2.2.1 u.2.2.2.2.2.2.2.2.1 u.2.2.2.2.2.2.2.2.2.1 u.2.2.2.2.2.2.2.2.2.2) (wf := fun u : (Nat → Int32) × (Nat → Nat → Int32) × (Nat → Int32) × (Nat → Int64) × (Nat → Nat → Int32) × (Nat → Nat → Int64) × (Nat → Int32) × (Nat → Nat → Int32) × (Nat) × (Nat) × (vS) => wd3 cI cJ cP h ad ad0 ad1 u.1 u.2.1 u.2.2.1 u.2.2.2.1 u.2.2.2.2.1 u.2.2.2.2.2.1 u.2.2.2.2.2.2.1 u.2.2.2.2.2.2.2.1 u.2.2.2.2.2.2.2.2.1 u.2.2.2.2.2.2.2.2.2.1 u.2.2.2.2.2.2.2.2.2.2) (u := (I, R, CI, CJ, CR, CG, EI, ER, Eq, En, V)) hx hb hr hK hP hD hS hq dX3_consent_19 hlocks
