def zX3_proof (post : Int32 → Prop) (p1 : Int32) (p2 : Int32) (I : Nat → Int32) (R : Nat → Nat → Int32) (CI : Nat → Int32) (CJ : Nat → Int64) (CR : Nat → Nat → Int32) (CG : Nat → Nat → Int64) (EI : Nat → Int32) (ER : Nat → Nat → Int32) (Eq : Nat) (En : Nat) (V : vS) (X19 : Int32 → Int32 → Prop) : Prop :=
  (∀ (x3 : Int32) (x4 : Int32), ((((I 4) ≤ x4) → (post (-1 : Int32))) ∧ ((¬ (I 4) ≤ x4) → (∃ Pc_2 : Int32 → Prop, qX3_isChosen Pc_2 x4 I R CI CJ CR CG EI ER Eq En V ∧ (∀ (rc_2 : Int32), Pc_2 rc_2 → (((rc_2 = 0) → (X19 x3 (x4 + (1 : Int32)))) ∧ ((¬ rc_2 = 0) → (∃ Pc_3 : Int32 → Prop, qX3_shownIn Pc_3 x4 I R CI CJ CR CG EI ER Eq En V ∧ (∀ (rc_3 : Int32), Pc_3 rc_3 → (((((rc_3 >>> (p1 &&& 31)) &&& (1 : Int32)) = 0) → (X19 x3 (x4 + (1 : Int32)))) ∧ ((¬ ((rc_3 >>> (p1 &&& 31)) &&& (1 : Int32)) = 0) → (((¬ x3 = p2) → (X19 (x3 + (1 : Int32)) (x4 + (1 : Int32)))) ∧ ((x3 = p2) → (post x4))))))))))))) → X19 x3 x4)
def qX3_proof_19 (post : Int32 → Prop) (p1 : Int32) (p2 : Int32) (I : Nat → Int32) (R : Nat → Nat → Int32) (CI : Nat → Int32) (CJ : Nat → Int64) (CR : Nat → Nat → Int32) (CG : Nat → Nat → Int64) (EI : Nat → Int32) (ER : Nat → Nat → Int32) (Eq : Nat) (En : Nat) (V : vS) (x3 : Int32) (x4 : Int32) : Prop := ∀ (X19 : Int32 → Int32 → Prop), zX3_proof post p1 p2 I R CI CJ CR CG EI ER Eq En V X19 → X19 x3 x4
theorem kX3_proof_19 {post : Int32 → Prop} {p1 : Int32} {p2 : Int32} {I : Nat → Int32} {R : Nat → Nat → Int32} {CI : Nat → Int32} {CJ : Nat → Int64} {CR : Nat → Nat → Int32} {CG : Nat → Nat → Int64} {EI : Nat → Int32} {ER : Nat → Nat → Int32} {Eq : Nat} {En : Nat} {V : vS} {x3 : Int32} {x4 : Int32} (h : (((I 4) ≤ x4) → (post (-1 : Int32))) ∧ ((¬ (I 4) ≤ x4) → (∃ Pc_2 : Int32 → Prop, qX3_isChosen Pc_2 x4 I R CI CJ CR CG EI ER Eq En V ∧ (∀ (rc_2 : Int32), Pc_2 rc_2 → (((rc_2 = 0) → (qX3_proof_19 post p1 p2 I R CI CJ CR CG EI ER Eq En V x3 (x4 + (1 : Int32)))) ∧ ((¬ rc_2 = 0) → (∃ Pc_3 : Int32 → Prop, qX3_shownIn Pc_3 x4 I R CI CJ CR CG EI ER Eq En V ∧ (∀ (rc_3 : Int32), Pc_3 rc_3 → (((((rc_3 >>> (p1 &&& 31)) &&& (1 : Int32)) = 0) → (qX3_proof_19 post p1 p2 I R CI CJ CR CG EI ER Eq En V x3 (x4 + (1 : Int32)))) ∧ ((¬ ((rc_3 >>> (p1 &&& 31)) &&& (1 : Int32)) = 0) → (((¬ x3 = p2) → (qX3_proof_19 post p1 p2 I R CI CJ CR CG EI ER Eq En V (x3 + (1 : Int32)) (x4 + (1 : Int32)))) ∧ ((x3 = p2) → (post x4))))))))))))) : qX3_proof_19 post p1 p2 I R CI CJ CR CG EI ER Eq En V x3 x4 := by
  intro Z19 hcl
  refine hcl x3 x4 ?_
  refine ⟨fun c => ?_, fun c => ?_⟩
  · have h := h.1 c
    exact h
  · have h := h.2 c
    obtain ⟨P, h1, h2⟩ := h
    refine ⟨P, h1, fun b0 hp => ?_⟩
    have h := h2 b0 hp
    refine ⟨fun c => ?_, fun c => ?_⟩
    · have h := h.1 c
      exact h _ hcl
    · have h := h.2 c
      obtain ⟨P, h1, h2⟩ := h
      refine ⟨P, h1, fun b0 hp => ?_⟩
      have h := h2 b0 hp
      refine ⟨fun c => ?_, fun c => ?_⟩
      · have h := h.1 c
        exact h _ hcl
      · have h := h.2 c
        refine ⟨fun c => ?_, fun c => ?_⟩
        · have h := h.1 c
          exact h _ hcl
        · have h := h.2 c
          exact h
def qX3_proof (post : Int32 → Prop) (p1 : Int32) (p2 : Int32) (I : Nat → Int32) (R : Nat → Nat → Int32) (CI : Nat → Int32) (CJ : Nat → Int64) (CR : Nat → Nat → Int32) (CG : Nat → Nat → Int64) (EI : Nat → Int32) (ER : Nat → Nat → Int32) (Eq : Nat) (En : Nat) (V : vS) : Prop := ∃ Pc_1 : Int32 → Prop, qX3_isChild Pc_1 p1 I R CI CJ CR CG EI ER Eq En V ∧ (∀ (rc_1 : Int32), Pc_1 rc_1 → (((rc_1 = 0) → (post (-1 : Int32))) ∧ ((¬ rc_1 = 0) → (((0 ≤ p2) → (qX3_proof_19 post p1 p2 I R CI CJ CR CG EI ER Eq En V (0 : Int32) (0 : Int32))) ∧ ((¬ 0 ≤ p2) → (post (-1 : Int32)))))))
theorem mX3_proof_f51 : Cond.fieldLink RX3 51 "YearBook" "pictureCount" "I" ∈ wsX3_proof := by decide +kernel
theorem nX3_proof_X3 : ∀ w ∈ u_ws RX3 TX3 9, w ∈ wsX3_proof := by decide +kernel
set_option maxHeartbeats 4000000 in
set_option maxRecDepth 100000 in
theorem tX3_proof (l : Launch) (dC : Nat → ClassId) (dI : Nat → Nat → Nat) (cI : ClassId) (cJ : ClassId) (cP : ClassId) (h : Nat) (ad ad0 ad1 : Nat → Nat)  (sz : Nat) (post : Int32 → Prop) (p1 : Int32) (p2 : Int32) (I : Nat → Int32) (R : Nat → Nat → Int32) (CI : Nat → Int32) (CJ : Nat → Int64) (CR : Nat → Nat → Int32) (CG : Nat → Nat → Int64) (EI : Nat → Int32) (ER : Nat → Nat → Int32) (Eq : Nat) (En : Nat) (V : vS) (hq : qX3_proof post p1 p2 I R CI CJ CR CG EI ER Eq En V) : Met l yX3_proof wsX3_proof ({ frames := 2, cells := 0, slots := 0, locals := 43 } : Room) (va_Pc [.ref h, .int p1, .int p2] (wPreN (dC, dI) vwCl [(cI, .int), (cJ, .long), (cP, .object "YearBook$Picture")] (wd3 cI cJ cP h ad ad0 ad1 I R CI CJ CR CG EI ER Eq En V) sz)) (va_Qi (fun r (_ : Unit) => post r ) (wAt (dC, dI) vwCl [(cI, .int), (cJ, .long), (cP, .object "YearBook$Picture")] (va_A (wd3 cI cJ cP h ad ad0 ad1 I R CI CJ CR CG EI ER Eq En V) sz) (fun _ : Unit => wd3 cI cJ cP h ad ad0 ad1 I R CI CJ CR CG EI ER Eq En V)) (va_A (wd3 cI cJ cP h ad ad0 ad1 I R CI CJ CR CG EI ER Eq En V) sz)) 0 0 (va_A (wd3 cI cJ cP h ad ad0 ad1 I R CI CJ CR CG EI ER Eq En V) sz) := by
  unfold qX3_proof at hq
  refine Met.ofW (cc := cX3_proof) (maxL := 5) (ret := (some .int)) (by decide) rfl ?_
  intro p e s m args below meth c s₁ B hml hv
  obtain ⟨rfl, ⟨hsz, hP, hK, hD0⟩, hn⟩ := hv
  have hx := B.exec
  have hb := B.bytes
  have hr := B.returns
  have hts := atoms_spec (ws := wsX3_proof) B.pre
  have hown : s.vm.findClass RX3 = some m.cls := findClass_of_methodNamed B.named
  have hlocks := B.notSynchronized
  subst hsz
  have hD := hD0.self (sz := s.heap.size)
  generalize hAe : va_A (wd3 cI cJ cP h ad ad0 ad1 I R CI CJ CR CG EI ER Eq En V) s.heap.size = A at hD ⊢
  have hA : ∀ q : Nat, s.heap.size ≤ q → A q := fun q h => by rw [← hAe]; exact Or.inr h
  have hS : va_S A s.heap s.heap [] := va_S.rf
  have hZ : zX3_proof post p1 p2 I R CI CJ CR CG EI ER Eq En V
      (fun (x3 : Int32) (x4 : Int32) => ∀ (H : Heap) (locs : List Loc) (ls : Array Slot), va_P (dC, dI) vwCl (wd3 cI cJ cP h ad ad0 ad1 I R CI CJ CR CG EI ER Eq En V) H → va_D A (wd3 cI cJ cP h ad ad0 ad1 I R CI CJ CR CG EI ER Eq En V) → va_S A s.heap H locs → lv_has ls 5 [(0, .ref h), (1, .int p1), (2, .int p2), (3, .int x3), (4, .int x4)] → W p l e (headSpec wsX3_proof ({ frames := 2, cells := 0, slots := 0, locals := 43 } : Room)).room s m ([.ref h, .int p1, .int p2] : List Value).toArray below meth c H locs 0 0 (MQ below (va_Qi (fun r (_ : Unit) => post r ) (wAt (dC, dI) vwCl [(cI, .int), (cJ, .long), (cP, .object "YearBook$Picture")] A (fun _ : Unit => wd3 cI cJ cP h ad ad0 ad1 I R CI CJ CR CG EI ER Eq En V)) A) ([.ref h, .int p1, .int p2] : List Value).toArray s 0 0 A) (F0 m 19 ls [])) := by
    unfold zX3_proof
    intro x3 x4 hq H locs ls hP hD hS hl
    refine lv_iload hx hb dX3_proof_19 (lv_at hl 4 rfl) ?_
    refine lv_aload_n hx hb dX3_proof_21 rfl (lv_at hl 0 rfl) ?_
    refine va_get (D := (dC, dI)) (ci := 3) (v := .int (I 4)) (C := RX3) (T := TX3) (N := 9) hx hb hts nX3_proof_X3 hown hK hP 0 rfl rfl 4 (by decide) (hts _ mX3_proof_f51) (fun _ h9 => h9) rfl dX3_proof_22 ?_
    refine lv_icmp_ge (tgt := 67) hx hb dX3_proof_25 (by decide) (fun hc => ?_) (fun hc => ?_)
    · have hq := hq.1 hc
      refine lv_iconst (v := (-1 : Int32)) hx hb dX3_proof_67 (by decide) ?_
      exact w_iret (post := fun r (_ : Unit) => post r ) (wf := fun _ : Unit => wd3 cI cJ cP h ad ad0 ad1 I R CI CJ CR CG EI ER Eq En V) (u := ()) hx hb hr hK hP hD hS hq dX3_proof_68 hlocks
    · have hq := hq.2 hc
      refine lv_aload_n hx hb dX3_proof_28 rfl (lv_at hl 0 rfl) ?_
      refine lv_iload hx hb dX3_proof_29 (lv_at hl 4 rfl) ?_
      obtain ⟨Pc_2, hc, hq⟩ := hq
      refine w_calli (wf := fun _ : Unit => wd3 cI cJ cP h ad ad0 ad1 I R CI CJ CR CG EI ER Eq En V) (va_runV (As := [.int x4]) (rest := []) ⟨hx, hb, hml, hown, hts⟩ (tX3_isChosen l dC dI cI cJ cP h ad ad0 ad1 _ Pc_2 x4 I R CI CJ CR CG EI ER Eq En V hc) (cwV 1 hts gX3_proof_X3_isChosen rfl rfl rfl (by decide +kernel) ⟨Nat.le_of_ble_eq_true rfl, Nat.le_of_ble_eq_true rfl⟩) (wPreVN hn hK hP hD (ci := 3) (q0 := 0) rfl rfl) rfl rfl hl.1 rfl (lv_room (Nat.le_of_ble_eq_true rfl)) dX3_proof_31 ⟨Nat.le_of_ble_eq_true rfl, Nat.le_of_ble_eq_true rfl⟩) hD hS hA (fun rc_2 u H locs hp hP hD hS => ?_)
      have hq := hq rc_2 hp
      have hP : va_P (dC, dI) vwCl (wd3 cI cJ cP h ad ad0 ad1 I R CI CJ CR CG EI ER Eq En V) H := hP
      have hD : va_D A (wd3 cI cJ cP h ad ad0 ad1 I R CI CJ CR CG EI ER Eq En V) := hD
      refine lv_if_eq (tgt := 61) hx hb dX3_proof_34 (by decide) (fun hc => ?_) (fun hc => ?_)
      · have hq := hq.1 hc
        refine lv_iinc (v := x4 + (1 : Int32)) (lv' := [(4, .int (x4 + (1 : Int32))), (0, .ref h), (1, .int p1), (2, .int p2), (3, .int x3)]) hx hb dX3_proof_61 hl (k := 4) rfl rfl (by decide) rfl (fun ls hl => ?_)
        refine lv_goto (tgt := 19) hx hb dX3_proof_64 (by decide) ?_
        exact hq _ _ ls hP hD hS (lv_sub hl [1, 2, 3, 4, 0] rfl)
      · have hq := hq.2 hc
        refine lv_aload_n hx hb dX3_proof_37 rfl (lv_at hl 0 rfl) ?_
        refine lv_iload hx hb dX3_proof_38 (lv_at hl 4 rfl) ?_
        obtain ⟨Pc_3, hc, hq⟩ := hq
        refine w_calli (wf := fun _ : Unit => wd3 cI cJ cP h ad ad0 ad1 I R CI CJ CR CG EI ER Eq En V) (va_runV (As := [.int x4]) (rest := []) ⟨hx, hb, hml, hown, hts⟩ (tX3_shownIn l dC dI cI cJ cP h ad ad0 ad1 _ Pc_3 x4 I R CI CJ CR CG EI ER Eq En V hc) (cwV 1 hts gX3_proof_X3_shownIn rfl rfl rfl (by decide +kernel) ⟨Nat.le_of_ble_eq_true rfl, Nat.le_of_ble_eq_true rfl⟩) (wPreVN hn hK hP hD (ci := 3) (q0 := 0) rfl rfl) rfl rfl hl.1 rfl (lv_room (Nat.le_of_ble_eq_true rfl)) dX3_proof_40 ⟨Nat.le_of_ble_eq_true rfl, Nat.le_of_ble_eq_true rfl⟩) hD hS hA (fun rc_3 u H locs hp hP hD hS => ?_)
        have hq := hq rc_3 hp
        have hP : va_P (dC, dI) vwCl (wd3 cI cJ cP h ad ad0 ad1 I R CI CJ CR CG EI ER Eq En V) H := hP
        have hD : va_D A (wd3 cI cJ cP h ad ad0 ad1 I R CI CJ CR CG EI ER Eq En V) := hD
        refine lv_iload_n hx hb dX3_proof_43 rfl (lv_at hl 1 rfl) ?_
        refine lv_ishr hx hb dX3_proof_44 ?_
        refine lv_iconst (v := (1 : Int32)) hx hb dX3_proof_45 (by decide) ?_
        refine lv_iand hx hb dX3_proof_46 ?_
        refine lv_if_eq (tgt := 61) hx hb dX3_proof_47 (by decide) (fun hc => ?_) (fun hc => ?_)
        · have hq := hq.1 hc
          refine lv_iinc (v := x4 + (1 : Int32)) (lv' := [(4, .int (x4 + (1 : Int32))), (0, .ref h), (1, .int p1), (2, .int p2), (3, .int x3)]) hx hb dX3_proof_61 hl (k := 4) rfl rfl (by decide) rfl (fun ls hl => ?_)
          refine lv_goto (tgt := 19) hx hb dX3_proof_64 (by decide) ?_
          exact hq _ _ ls hP hD hS (lv_sub hl [1, 2, 3, 4, 0] rfl)
        · have hq := hq.2 hc
          refine lv_iload_n hx hb dX3_proof_50 rfl (lv_at hl 3 rfl) ?_
          refine lv_iload_n hx hb dX3_proof_51 rfl (lv_at hl 2 rfl) ?_
          refine lv_icmp_ne (tgt := 58) hx hb dX3_proof_52 (by decide) (fun hc => ?_) (fun hc => ?_)
          · have hq := hq.1 hc
            refine lv_iinc (v := x3 + (1 : Int32)) (lv' := [(3, .int (x3 + (1 : Int32))), (0, .ref h), (1, .int p1), (2, .int p2), (4, .int x4)]) hx hb dX3_proof_58 hl (k := 3) rfl rfl (by decide) rfl (fun ls hl => ?_)
            refine lv_iinc (v := x4 + (1 : Int32)) (lv' := [(4, .int (x4 + (1 : Int32))), (3, .int (x3 + (1 : Int32))), (0, .ref h), (1, .int p1), (2, .int p2)]) hx hb dX3_proof_61 hl (k := 4) rfl rfl (by decide) rfl (fun ls hl => ?_)
            refine lv_goto (tgt := 19) hx hb dX3_proof_64 (by decide) ?_
            exact hq _ _ ls hP hD hS (lv_sub hl [2, 3, 4, 1, 0] rfl)
          · have hq := hq.2 hc
            refine lv_iload hx hb dX3_proof_55 (lv_at hl 4 rfl) ?_
            exact w_iret (post := fun r (_ : Unit) => post r ) (wf := fun _ : Unit => wd3 cI cJ cP h ad ad0 ad1 I R CI CJ CR CG EI ER Eq En V) (u := ()) hx hb hr hK hP hD hS hq dX3_proof_57 hlocks
  have hl := lv_entry ([.ref h, .int p1, .int p2]) (n := 5) (Nat.le_of_ble_eq_true rfl)
  rw [lg_entry_eq]
  generalize (lg_sl ([.ref h, .int p1, .int p2]) ++ List.replicate (5 - (lg_sl ([.ref h, .int p1, .int p2])).length) Slot.unset).toArray = ls at hl ⊢
  have hl : lv_has ls 5 [(0, .ref h), (1, .int p1), (2, .int p2)] := hl
  refine lv_aload_n hx hb dX3_proof_0 rfl (lv_at hl 0 rfl) ?_
  refine lv_iload_n hx hb dX3_proof_1 rfl (lv_at hl 1 rfl) ?_
  obtain ⟨Pc_1, hc, hq⟩ := hq
  refine w_calli (wf := fun _ : Unit => wd3 cI cJ cP h ad ad0 ad1 I R CI CJ CR CG EI ER Eq En V) (va_runV (As := [.int p1]) (rest := []) ⟨hx, hb, hml, hown, hts⟩ (tX3_isChild l dC dI cI cJ cP h ad ad0 ad1 _ Pc_1 p1 I R CI CJ CR CG EI ER Eq En V hc) (cwV 1 hts gX3_proof_X3_isChild rfl rfl rfl (by decide +kernel) ⟨Nat.le_of_ble_eq_true rfl, Nat.le_of_ble_eq_true rfl⟩) (wPreVN hn hK hP hD (ci := 3) (q0 := 0) rfl rfl) rfl rfl hl.1 rfl (lv_room (Nat.le_of_ble_eq_true rfl)) dX3_proof_2 ⟨Nat.le_of_ble_eq_true rfl, Nat.le_of_ble_eq_true rfl⟩) hD hS hA (fun rc_1 u H locs hp hP hD hS => ?_)
  have hq := hq rc_1 hp
  have hP : va_P (dC, dI) vwCl (wd3 cI cJ cP h ad ad0 ad1 I R CI CJ CR CG EI ER Eq En V) H := hP
  have hD : va_D A (wd3 cI cJ cP h ad ad0 ad1 I R CI CJ CR CG EI ER Eq En V) := hD
  refine lv_if_eq (tgt := 12) hx hb dX3_proof_5 (by decide) (fun hc => ?_) (fun hc => ?_)
  · have hq := hq.1 hc
    refine lv_iconst (v := (-1 : Int32)) hx hb dX3_proof_12 (by decide) ?_
    exact w_iret (post := fun r (_ : Unit) => post r ) (wf := fun _ : Unit => wd3 cI cJ cP h ad ad0 ad1 I R CI CJ CR CG EI ER Eq En V) (u := ()) hx hb hr hK hP hD hS hq dX3_proof_13 hlocks
  · have hq := hq.2 hc
    refine lv_iload_n hx hb dX3_proof_8 rfl (lv_at hl 2 rfl) ?_
    refine lv_if_ge (tgt := 14) hx hb dX3_proof_9 (by decide) (fun hc => ?_) (fun hc => ?_)
    · have hq := hq.1 hc
      refine lv_iconst (v := (0 : Int32)) hx hb dX3_proof_14 (by decide) ?_
      refine lv_istore_n (lv' := [(3, .int (0 : Int32)), (0, .ref h), (1, .int p1), (2, .int p2)]) hx hb dX3_proof_15 rfl hl (by decide) rfl (fun ls hl => ?_)
      refine lv_iconst (v := (0 : Int32)) hx hb dX3_proof_16 (by decide) ?_
      refine lv_istore (lv' := [(4, .int (0 : Int32)), (3, .int (0 : Int32)), (0, .ref h), (1, .int p1), (2, .int p2)]) hx hb dX3_proof_17 hl (by decide) rfl (fun ls hl => ?_)
      exact hq _ hZ _ _ ls hP hD hS (lv_sub hl [2, 3, 4, 1, 0] rfl)
    · have hq := hq.2 hc
      refine lv_iconst (v := (-1 : Int32)) hx hb dX3_proof_12 (by decide) ?_
      exact w_iret (post := fun r (_ : Unit) => post r ) (wf := fun _ : Unit => wd3 cI cJ cP h ad ad0 ad1 I R CI CJ CR CG EI ER Eq En V) (u := ()) hx hb hr hK hP hD hS hq dX3_proof_13 hlocks
def qX3_seen (post : Int32 → Prop) (p1 : Int32) (I : Nat → Int32) (R : Nat → Nat → Int32) (CI : Nat → Int32) (CJ : Nat → Int64) (CR : Nat → Nat → Int32) (CG : Nat → Nat → Int64) (EI : Nat → Int32) (ER : Nat → Nat → Int32) (Eq : Nat) (En : Nat) (V : vS) : Prop := ∃ Pc_1 : Int32 → Prop, qX3_isChild Pc_1 p1 I R CI CJ CR CG EI ER Eq En V ∧ (∀ (rc_1 : Int32), Pc_1 rc_1 → (((rc_1 = 0) → (post (-1 : Int32))) ∧ ((¬ rc_1 = 0) → (∃ Pc_2 : Int32 → Prop, qX3_chosenShowing Pc_2 ((1 : Int32) <<< (p1 &&& 31)) I R CI CJ CR CG EI ER Eq En V ∧ (∀ (rc_2 : Int32), Pc_2 rc_2 → (post rc_2))))))
set_option maxHeartbeats 4000000 in
set_option maxRecDepth 100000 in
theorem tX3_seen (l : Launch) (dC : Nat → ClassId) (dI : Nat → Nat → Nat) (cI : ClassId) (cJ : ClassId) (cP : ClassId) (h : Nat) (ad ad0 ad1 : Nat → Nat)  (sz : Nat) (post : Int32 → Prop) (p1 : Int32) (I : Nat → Int32) (R : Nat → Nat → Int32) (CI : Nat → Int32) (CJ : Nat → Int64) (CR : Nat → Nat → Int32) (CG : Nat → Nat → Int64) (EI : Nat → Int32) (ER : Nat → Nat → Int32) (Eq : Nat) (En : Nat) (V : vS) (hq : qX3_seen post p1 I R CI CJ CR CG EI ER Eq En V) : Met l yX3_seen wsX3_seen ({ frames := 3, cells := 0, slots := 0, locals := 66 } : Room) (va_Pc [.ref h, .int p1] (wPreN (dC, dI) vwCl [(cI, .int), (cJ, .long), (cP, .object "YearBook$Picture")] (wd3 cI cJ cP h ad ad0 ad1 I R CI CJ CR CG EI ER Eq En V) sz)) (va_Qi (fun r (_ : Unit) => post r ) (wAt (dC, dI) vwCl [(cI, .int), (cJ, .long), (cP, .object "YearBook$Picture")] (va_A (wd3 cI cJ cP h ad ad0 ad1 I R CI CJ CR CG EI ER Eq En V) sz) (fun _ : Unit => wd3 cI cJ cP h ad ad0 ad1 I R CI CJ CR CG EI ER Eq En V)) (va_A (wd3 cI cJ cP h ad ad0 ad1 I R CI CJ CR CG EI ER Eq En V) sz)) 0 0 (va_A (wd3 cI cJ cP h ad ad0 ad1 I R CI CJ CR CG EI ER Eq En V) sz) := by
  unfold qX3_seen at hq
  refine Met.ofW (cc := cX3_seen) (maxL := 2) (ret := (some .int)) (by decide) rfl ?_
  intro p e s m args below meth c s₁ B hml hv
  obtain ⟨rfl, ⟨hsz, hP, hK, hD0⟩, hn⟩ := hv
  have hx := B.exec
  have hb := B.bytes
  have hr := B.returns
  have hts := atoms_spec (ws := wsX3_seen) B.pre
  have hown : s.vm.findClass RX3 = some m.cls := findClass_of_methodNamed B.named
  have hlocks := B.notSynchronized
  subst hsz
  have hD := hD0.self (sz := s.heap.size)
  generalize hAe : va_A (wd3 cI cJ cP h ad ad0 ad1 I R CI CJ CR CG EI ER Eq En V) s.heap.size = A at hD ⊢
  have hA : ∀ q : Nat, s.heap.size ≤ q → A q := fun q h => by rw [← hAe]; exact Or.inr h
  have hS : va_S A s.heap s.heap [] := va_S.rf
  have hl := lv_entry ([.ref h, .int p1]) (n := 2) (Nat.le_of_ble_eq_true rfl)
  rw [lg_entry_eq]
  generalize (lg_sl ([.ref h, .int p1]) ++ List.replicate (2 - (lg_sl ([.ref h, .int p1])).length) Slot.unset).toArray = ls at hl ⊢
  have hl : lv_has ls 2 [(0, .ref h), (1, .int p1)] := hl
  refine lv_aload_n hx hb dX3_seen_0 rfl (lv_at hl 0 rfl) ?_
  refine lv_iload_n hx hb dX3_seen_1 rfl (lv_at hl 1 rfl) ?_
  obtain ⟨Pc_1, hc, hq⟩ := hq
  refine w_calli (wf := fun _ : Unit => wd3 cI cJ cP h ad ad0 ad1 I R CI CJ CR CG EI ER Eq En V) (va_runV (As := [.int p1]) (rest := []) ⟨hx, hb, hml, hown, hts⟩ (tX3_isChild l dC dI cI cJ cP h ad ad0 ad1 _ Pc_1 p1 I R CI CJ CR CG EI ER Eq En V hc) (cwV 1 hts gX3_seen_X3_isChild rfl rfl rfl (by decide +kernel) ⟨Nat.le_of_ble_eq_true rfl, Nat.le_of_ble_eq_true rfl⟩) (wPreVN hn hK hP hD (ci := 3) (q0 := 0) rfl rfl) rfl rfl hl.1 rfl (lv_room (Nat.le_of_ble_eq_true rfl)) dX3_seen_2 ⟨Nat.le_of_ble_eq_true rfl, Nat.le_of_ble_eq_true rfl⟩) hD hS hA (fun rc_1 u H locs hp hP hD hS => ?_)
  have hq := hq rc_1 hp
  have hP : va_P (dC, dI) vwCl (wd3 cI cJ cP h ad ad0 ad1 I R CI CJ CR CG EI ER Eq En V) H := hP
  have hD : va_D A (wd3 cI cJ cP h ad ad0 ad1 I R CI CJ CR CG EI ER Eq En V) := hD
  refine lv_if_eq (tgt := 18) hx hb dX3_seen_5 (by decide) (fun hc => ?_) (fun hc => ?_)
  · have hq := hq.1 hc
    refine lv_iconst (v := (-1 : Int32)) hx hb dX3_seen_18 (by decide) ?_
    exact w_iret (post := fun r (_ : Unit) => post r ) (wf := fun _ : Unit => wd3 cI cJ cP h ad ad0 ad1 I R CI CJ CR CG EI ER Eq En V) (u := ()) hx hb hr hK hP hD hS hq dX3_seen_19 hlocks
  · have hq := hq.2 hc
    refine lv_aload_n hx hb dX3_seen_8 rfl (lv_at hl 0 rfl) ?_
    refine lv_iconst (v := (1 : Int32)) hx hb dX3_seen_9 (by decide) ?_
    refine lv_iload_n hx hb dX3_seen_10 rfl (lv_at hl 1 rfl) ?_
    refine lv_ishl hx hb dX3_seen_11 ?_
    obtain ⟨Pc_2, hc, hq⟩ := hq
    refine w_calli (wf := fun _ : Unit => wd3 cI cJ cP h ad ad0 ad1 I R CI CJ CR CG EI ER Eq En V) (va_runV (As := [.int ((1 : Int32) <<< (p1 &&& 31))]) (rest := []) ⟨hx, hb, hml, hown, hts⟩ (tX3_chosenShowing l dC dI cI cJ cP h ad ad0 ad1 _ Pc_2 ((1 : Int32) <<< (p1 &&& 31)) I R CI CJ CR CG EI ER Eq En V hc) (cwV 1 hts gX3_seen_X3_chosenShowing rfl rfl rfl (by decide +kernel) ⟨Nat.le_of_ble_eq_true rfl, Nat.le_of_ble_eq_true rfl⟩) (wPreVN hn hK hP hD (ci := 3) (q0 := 0) rfl rfl) rfl rfl hl.1 rfl (lv_room (Nat.le_of_ble_eq_true rfl)) dX3_seen_12 ⟨Nat.le_of_ble_eq_true rfl, Nat.le_of_ble_eq_true rfl⟩) hD hS hA (fun rc_2 u H locs hp hP hD hS => ?_)
    have hq := hq rc_2 hp
    have hP : va_P (dC, dI) vwCl (wd3 cI cJ cP h ad ad0 ad1 I R CI CJ CR CG EI ER Eq En V) H := hP
    have hD : va_D A (wd3 cI cJ cP h ad ad0 ad1 I R CI CJ CR CG EI ER Eq En V) := hD
    refine lv_goto (tgt := 19) hx hb dX3_seen_15 (by decide) ?_
    exact w_iret (post := fun r (_ : Unit) => post r ) (wf := fun _ : Unit => wd3 cI cJ cP h ad ad0 ad1 I R CI CJ CR CG EI ER Eq En V) (u := ()) hx hb hr hK hP hD hS hq dX3_seen_19 hlocks
def zX3_shows (post : Int32 → Prop) (p1 : Int32) (I : Nat → Int32) (R : Nat → Nat → Int32) (CI : Nat → Int32) (CJ : Nat → Int64) (CR : Nat → Nat → Int32) (CG : Nat → Nat → Int64) (EI : Nat → Int32) (ER : Nat → Nat → Int32) (Eq : Nat) (En : Nat) (V : vS) (X16 : Int32 → Int32 → Prop) : Prop :=
  (∀ (x2 : Int32) (x3 : Int32), ((((I 2) ≤ x3) → (∃ Pc_2 : Int32 → Prop, qX3_chosenShowing Pc_2 x2 I R CI CJ CR CG EI ER Eq En V ∧ (∀ (rc_2 : Int32), Pc_2 rc_2 → (post rc_2)))) ∧ ((¬ (I 2) ≤ x3) → (vp_in x3 16 ∧ (((¬ (R 0 x3.toNatClampNeg) = p1) → (X16 x2 (x3 + (1 : Int32)))) ∧ (((R 0 x3.toNatClampNeg) = p1) → (∀ x2_4 : Int32, x2_4 = x2 ||| ((1 : Int32) <<< (x3 &&& 31)) → (X16 x2_4 (x3 + (1 : Int32))))))))) → X16 x2 x3)
def qX3_shows_16 (post : Int32 → Prop) (p1 : Int32) (I : Nat → Int32) (R : Nat → Nat → Int32) (CI : Nat → Int32) (CJ : Nat → Int64) (CR : Nat → Nat → Int32) (CG : Nat → Nat → Int64) (EI : Nat → Int32) (ER : Nat → Nat → Int32) (Eq : Nat) (En : Nat) (V : vS) (x2 : Int32) (x3 : Int32) : Prop := ∀ (X16 : Int32 → Int32 → Prop), zX3_shows post p1 I R CI CJ CR CG EI ER Eq En V X16 → X16 x2 x3
theorem kX3_shows_16 {post : Int32 → Prop} {p1 : Int32} {I : Nat → Int32} {R : Nat → Nat → Int32} {CI : Nat → Int32} {CJ : Nat → Int64} {CR : Nat → Nat → Int32} {CG : Nat → Nat → Int64} {EI : Nat → Int32} {ER : Nat → Nat → Int32} {Eq : Nat} {En : Nat} {V : vS} {x2 : Int32} {x3 : Int32} (h : (((I 2) ≤ x3) → (∃ Pc_2 : Int32 → Prop, qX3_chosenShowing Pc_2 x2 I R CI CJ CR CG EI ER Eq En V ∧ (∀ (rc_2 : Int32), Pc_2 rc_2 → (post rc_2)))) ∧ ((¬ (I 2) ≤ x3) → (vp_in x3 16 ∧ (((¬ (R 0 x3.toNatClampNeg) = p1) → (qX3_shows_16 post p1 I R CI CJ CR CG EI ER Eq En V x2 (x3 + (1 : Int32)))) ∧ (((R 0 x3.toNatClampNeg) = p1) → (∀ x2_4 : Int32, x2_4 = x2 ||| ((1 : Int32) <<< (x3 &&& 31)) → (qX3_shows_16 post p1 I R CI CJ CR CG EI ER Eq En V x2_4 (x3 + (1 : Int32))))))))) : qX3_shows_16 post p1 I R CI CJ CR CG EI ER Eq En V x2 x3 := by
  intro Z16 hcl
  refine hcl x2 x3 ?_
  refine ⟨fun c => ?_, fun c => ?_⟩
  · have h := h.1 c
    obtain ⟨P, h1, h2⟩ := h
    refine ⟨P, h1, fun b0 hp => ?_⟩
    have h := h2 b0 hp
    exact h
  · have h := h.2 c
    refine ⟨h.1, ?_⟩
    have h := h.2
    refine ⟨fun c => ?_, fun c => ?_⟩
    · have h := h.1 c
      exact h _ hcl
    · have h := h.2 c
      intro x e
      have h := h x e
      exact h _ hcl
def qX3_shows (post : Int32 → Prop) (p1 : Int32) (I : Nat → Int32) (R : Nat → Nat → Int32) (CI : Nat → Int32) (CJ : Nat → Int64) (CR : Nat → Nat → Int32) (CG : Nat → Nat → Int64) (EI : Nat → Int32) (ER : Nat → Nat → Int32) (Eq : Nat) (En : Nat) (V : vS) : Prop := ∃ Pc_1 : Int32 → Prop, qX3_within Pc_1 p1 (0 : Int32) (9 : Int32) ∧ (∀ (rc_1 : Int32), Pc_1 rc_1 → (((¬ rc_1 = 0) → (qX3_shows_16 post p1 I R CI CJ CR CG EI ER Eq En V (0 : Int32) (0 : Int32))) ∧ ((rc_1 = 0) → (post (-1 : Int32)))))
theorem mX3_shows_f43 : Cond.fieldLink RX3 43 "YearBook" "children" "I" ∈ wsX3_shows := by decide +kernel
theorem nX3_shows_X3 : ∀ w ∈ u_ws RX3 TX3 9, w ∈ wsX3_shows := by decide +kernel
theorem mX3_shows_f9 : Cond.fieldLink RX3 9 "YearBook" "rooms" "[I" ∈ wsX3_shows := by decide +kernel
set_option maxHeartbeats 4000000 in
set_option maxRecDepth 100000 in
theorem tX3_shows (l : Launch) (dC : Nat → ClassId) (dI : Nat → Nat → Nat) (cI : ClassId) (cJ : ClassId) (cP : ClassId) (h : Nat) (ad ad0 ad1 : Nat → Nat)  (sz : Nat) (post : Int32 → Prop) (p1 : Int32) (I : Nat → Int32) (R : Nat → Nat → Int32) (CI : Nat → Int32) (CJ : Nat → Int64) (CR : Nat → Nat → Int32) (CG : Nat → Nat → Int64) (EI : Nat → Int32) (ER : Nat → Nat → Int32) (Eq : Nat) (En : Nat) (V : vS) (hq : qX3_shows post p1 I R CI CJ CR CG EI ER Eq En V) : Met l yX3_shows wsX3_shows ({ frames := 3, cells := 0, slots := 0, locals := 66 } : Room) (va_Pc [.ref h, .int p1] (wPreN (dC, dI) vwCl [(cI, .int), (cJ, .long), (cP, .object "YearBook$Picture")] (wd3 cI cJ cP h ad ad0 ad1 I R CI CJ CR CG EI ER Eq En V) sz)) (va_Qi (fun r (_ : Unit) => post r ) (wAt (dC, dI) vwCl [(cI, .int), (cJ, .long), (cP, .object "YearBook$Picture")] (va_A (wd3 cI cJ cP h ad ad0 ad1 I R CI CJ CR CG EI ER Eq En V) sz) (fun _ : Unit => wd3 cI cJ cP h ad ad0 ad1 I R CI CJ CR CG EI ER Eq En V)) (va_A (wd3 cI cJ cP h ad ad0 ad1 I R CI CJ CR CG EI ER Eq En V) sz)) 0 0 (va_A (wd3 cI cJ cP h ad ad0 ad1 I R CI CJ CR CG EI ER Eq En V) sz) := by
  unfold qX3_shows at hq
  refine Met.ofW (cc := cX3_shows) (maxL := 4) (ret := (some .int)) (by decide) rfl ?_
  intro p e s m args below meth c s₁ B hml hv
  obtain ⟨rfl, ⟨hsz, hP, hK, hD0⟩, hn⟩ := hv
  have hx := B.exec
  have hb := B.bytes
  have hr := B.returns
  have hts := atoms_spec (ws := wsX3_shows) B.pre
  have hown : s.vm.findClass RX3 = some m.cls := findClass_of_methodNamed B.named
  have hlocks := B.notSynchronized
  subst hsz
  have hD := hD0.self (sz := s.heap.size)
  generalize hAe : va_A (wd3 cI cJ cP h ad ad0 ad1 I R CI CJ CR CG EI ER Eq En V) s.heap.size = A at hD ⊢
  have hA : ∀ q : Nat, s.heap.size ≤ q → A q := fun q h => by rw [← hAe]; exact Or.inr h
  have hS : va_S A s.heap s.heap [] := va_S.rf
  have hZ : zX3_shows post p1 I R CI CJ CR CG EI ER Eq En V
      (fun (x2 : Int32) (x3 : Int32) => ∀ (H : Heap) (locs : List Loc) (ls : Array Slot), va_P (dC, dI) vwCl (wd3 cI cJ cP h ad ad0 ad1 I R CI CJ CR CG EI ER Eq En V) H → va_D A (wd3 cI cJ cP h ad ad0 ad1 I R CI CJ CR CG EI ER Eq En V) → va_S A s.heap H locs → lv_has ls 4 [(0, .ref h), (1, .int p1), (2, .int x2), (3, .int x3)] → W p l e (headSpec wsX3_shows ({ frames := 3, cells := 0, slots := 0, locals := 66 } : Room)).room s m ([.ref h, .int p1] : List Value).toArray below meth c H locs 0 0 (MQ below (va_Qi (fun r (_ : Unit) => post r ) (wAt (dC, dI) vwCl [(cI, .int), (cJ, .long), (cP, .object "YearBook$Picture")] A (fun _ : Unit => wd3 cI cJ cP h ad ad0 ad1 I R CI CJ CR CG EI ER Eq En V)) A) ([.ref h, .int p1] : List Value).toArray s 0 0 A) (F0 m 16 ls [])) := by
    unfold zX3_shows
    intro x2 x3 hq H locs ls hP hD hS hl
    refine lv_iload_n hx hb dX3_shows_16 rfl (lv_at hl 3 rfl) ?_
    refine lv_aload_n hx hb dX3_shows_17 rfl (lv_at hl 0 rfl) ?_
    refine va_get (D := (dC, dI)) (ci := 3) (v := .int (I 2)) (C := RX3) (T := TX3) (N := 9) hx hb hts nX3_shows_X3 hown hK hP 0 rfl rfl 2 (by decide) (hts _ mX3_shows_f43) (fun _ h9 => h9) rfl dX3_shows_18 ?_
    refine lv_icmp_ge (tgt := 46) hx hb dX3_shows_21 (by decide) (fun hc => ?_) (fun hc => ?_)
    · have hq := hq.1 hc
      refine lv_aload_n hx hb dX3_shows_46 rfl (lv_at hl 0 rfl) ?_
      refine lv_iload_n hx hb dX3_shows_47 rfl (lv_at hl 2 rfl) ?_
      obtain ⟨Pc_2, hc, hq⟩ := hq
      refine w_calli (wf := fun _ : Unit => wd3 cI cJ cP h ad ad0 ad1 I R CI CJ CR CG EI ER Eq En V) (va_runV (As := [.int x2]) (rest := []) ⟨hx, hb, hml, hown, hts⟩ (tX3_chosenShowing l dC dI cI cJ cP h ad ad0 ad1 _ Pc_2 x2 I R CI CJ CR CG EI ER Eq En V hc) (cwV 1 hts gX3_shows_X3_chosenShowing rfl rfl rfl (by decide +kernel) ⟨Nat.le_of_ble_eq_true rfl, Nat.le_of_ble_eq_true rfl⟩) (wPreVN hn hK hP hD (ci := 3) (q0 := 0) rfl rfl) rfl rfl hl.1 rfl (lv_room (Nat.le_of_ble_eq_true rfl)) dX3_shows_48 ⟨Nat.le_of_ble_eq_true rfl, Nat.le_of_ble_eq_true rfl⟩) hD hS hA (fun rc_2 u H locs hp hP hD hS => ?_)
      have hq := hq rc_2 hp
      have hP : va_P (dC, dI) vwCl (wd3 cI cJ cP h ad ad0 ad1 I R CI CJ CR CG EI ER Eq En V) H := hP
      have hD : va_D A (wd3 cI cJ cP h ad ad0 ad1 I R CI CJ CR CG EI ER Eq En V) := hD
      exact w_iret (post := fun r (_ : Unit) => post r ) (wf := fun _ : Unit => wd3 cI cJ cP h ad ad0 ad1 I R CI CJ CR CG EI ER Eq En V) (u := ()) hx hb hr hK hP hD hS hq dX3_shows_51 hlocks
    · have hq := hq.2 hc
      refine lv_aload_n hx hb dX3_shows_24 rfl (lv_at hl 0 rfl) ?_
      refine va_get (D := (dC, dI)) (ci := 3) (v := .ref (ad 0)) (C := RX3) (T := TX3) (N := 9) hx hb hts nX3_shows_X3 hown hK hP 0 rfl rfl 0 (by decide) (hts _ mX3_shows_f9) (fun _ h9 => h9) rfl dX3_shows_25 ?_
      refine lv_iload_n hx hb dX3_shows_28 rfl (lv_at hl 3 rfl) ?_
      obtain ⟨hi_3, hq⟩ := hq
      refine va_iald (f := R 0) hx hb hK hP 1 0 rfl rfl hi_3 dX3_shows_29 ?_
      refine lv_iload_n hx hb dX3_shows_30 rfl (lv_at hl 1 rfl) ?_
      refine lv_icmp_ne (tgt := 40) hx hb dX3_shows_31 (by decide) (fun hc => ?_) (fun hc => ?_)
      · have hq := hq.1 hc
        refine lv_iinc (v := x3 + (1 : Int32)) (lv' := [(3, .int (x3 + (1 : Int32))), (0, .ref h), (1, .int p1), (2, .int x2)]) hx hb dX3_shows_40 hl (k := 3) rfl rfl (by decide) rfl (fun ls hl => ?_)
        refine lv_goto (tgt := 16) hx hb dX3_shows_43 (by decide) ?_
        exact hq _ _ ls hP hD hS (lv_sub hl [1, 2, 3, 0] rfl)
      · have hq := hq.2 hc
        refine lv_iload_n hx hb dX3_shows_34 rfl (lv_at hl 2 rfl) ?_
        refine lv_iconst (v := (1 : Int32)) hx hb dX3_shows_35 (by decide) ?_
        refine lv_iload_n hx hb dX3_shows_36 rfl (lv_at hl 3 rfl) ?_
        refine lv_ishl hx hb dX3_shows_37 ?_
        refine lv_ior hx hb dX3_shows_38 ?_
        refine lv_topi (fun x2_4 ex2_4 => ?_)
        have hq := hq x2_4 ex2_4
        refine lv_istore_n (lv' := [(2, .int x2_4), (0, .ref h), (1, .int p1), (3, .int x3)]) hx hb dX3_shows_39 rfl hl (by decide) rfl (fun ls hl => ?_)
        refine lv_iinc (v := x3 + (1 : Int32)) (lv' := [(3, .int (x3 + (1 : Int32))), (2, .int x2_4), (0, .ref h), (1, .int p1)]) hx hb dX3_shows_40 hl (k := 3) rfl rfl (by decide) rfl (fun ls hl => ?_)
        refine lv_goto (tgt := 16) hx hb dX3_shows_43 (by decide) ?_
        exact hq _ _ ls hP hD hS (lv_sub hl [2, 3, 1, 0] rfl)
  have hl := lv_entry ([.ref h, .int p1]) (n := 4) (Nat.le_of_ble_eq_true rfl)
  rw [lg_entry_eq]
  generalize (lg_sl ([.ref h, .int p1]) ++ List.replicate (4 - (lg_sl ([.ref h, .int p1])).length) Slot.unset).toArray = ls at hl ⊢
  have hl : lv_has ls 4 [(0, .ref h), (1, .int p1)] := hl
  refine lv_iload_n hx hb dX3_shows_0 rfl (lv_at hl 1 rfl) ?_
  refine lv_iconst (v := (0 : Int32)) hx hb dX3_shows_1 (by decide) ?_
  refine lv_bipush (v := (9 : Int32)) hx hb dX3_shows_2 (by decide) ?_
  obtain ⟨Pc_1, hc, hq⟩ := hq
  refine vp_callSi (W.runS (As := [.int p1, .int (0 : Int32), .int (9 : Int32)]) (rest := []) ⟨hx, hb, hml, hown, hts⟩ (tX3_within l Pc_1 p1 (0 : Int32) (9 : Int32) hc) (va_cwS 3 hts gX3_shows_X3_within rfl rfl rfl (by decide +kernel) ⟨Nat.le_of_ble_eq_true rfl, Nat.le_of_ble_eq_true rfl⟩) preEq rfl rfl hl.1 rfl (lv_room (Nat.le_of_ble_eq_true rfl)) dX3_shows_4 ⟨Nat.le_of_ble_eq_true rfl, Nat.le_of_ble_eq_true rfl⟩) (fun rc_1 hp => ?_)
  have hq := hq rc_1 hp
  refine lv_if_ne (tgt := 12) hx hb dX3_shows_7 (by decide) (fun hc => ?_) (fun hc => ?_)
  · have hq := hq.1 hc
    refine lv_iconst (v := (0 : Int32)) hx hb dX3_shows_12 (by decide) ?_
    refine lv_istore_n (lv' := [(2, .int (0 : Int32)), (0, .ref h), (1, .int p1)]) hx hb dX3_shows_13 rfl hl (by decide) rfl (fun ls hl => ?_)
    refine lv_iconst (v := (0 : Int32)) hx hb dX3_shows_14 (by decide) ?_
    refine lv_istore_n (lv' := [(3, .int (0 : Int32)), (2, .int (0 : Int32)), (0, .ref h), (1, .int p1)]) hx hb dX3_shows_15 rfl hl (by decide) rfl (fun ls hl => ?_)
    exact hq _ hZ _ _ ls hP hD hS (lv_sub hl [2, 3, 1, 0] rfl)
  · have hq := hq.2 hc
    refine lv_iconst (v := (-1 : Int32)) hx hb dX3_shows_10 (by decide) ?_
    exact w_iret (post := fun r (_ : Unit) => post r ) (wf := fun _ : Unit => wd3 cI cJ cP h ad ad0 ad1 I R CI CJ CR CG EI ER Eq En V) (u := ()) hx hb hr hK hP hD hS hq dX3_shows_11 hlocks
def zX3_wrong (post : Int32 → Prop) (I : Nat → Int32) (R : Nat → Nat → Int32) (CI : Nat → Int32) (CJ : Nat → Int64) (CR : Nat → Nat → Int32) (CG : Nat → Nat → Int64) (EI : Nat → Int32) (ER : Nat → Nat → Int32) (Eq : Nat) (En : Nat) (V : vS) (X25 : Int32 → Int32 → Int32 → Prop) (X80 : Int32 → Int32 → Int32 → Int32 → Prop) : Prop :=
  (∀ (x1 : Int32) (x2 : Int32) (x3 : Int32), ((((I 2) ≤ x3) → (((x2 = 0) → (post (0 : Int32))) ∧ ((¬ x2 = 0) → (post (3 : Int32))))) ∧ ((¬ (I 2) ≤ x3) → (((((x1 >>> (x3 &&& 31)) &&& (1 : Int32)) = 0) → (X25 x1 x2 (x3 + (1 : Int32)))) ∧ ((¬ ((x1 >>> (x3 &&& 31)) &&& (1 : Int32)) = 0) → (∃ Pc_3 : Int32 → Prop, qX3_chosenShowing Pc_3 ((1 : Int32) <<< (x3 &&& 31)) I R CI CJ CR CG EI ER Eq En V ∧ (∀ (rc_3 : Int32), Pc_3 rc_3 → ((((R 5 1) ≤ rc_3) → (((rc_3 ≤ (R 5 2)) → (X80 x1 x3 (0 : Int32) x2)) ∧ ((¬ rc_3 ≤ (R 5 2)) → (X80 x1 x3 (1 : Int32) x2)))) ∧ ((¬ (R 5 1) ≤ rc_3) → (post (2 : Int32)))))))))) → X25 x1 x2 x3) ∧
  (∀ (x1 : Int32) (x3 : Int32) (k0 : Int32) (k1 : Int32), (∀ x2_4 : Int32, x2_4 = k1 ||| k0 → (X25 x1 x2_4 (x3 + (1 : Int32)))) → X80 x1 x3 k0 k1)
def qX3_wrong_25 (post : Int32 → Prop) (I : Nat → Int32) (R : Nat → Nat → Int32) (CI : Nat → Int32) (CJ : Nat → Int64) (CR : Nat → Nat → Int32) (CG : Nat → Nat → Int64) (EI : Nat → Int32) (ER : Nat → Nat → Int32) (Eq : Nat) (En : Nat) (V : vS) (x1 : Int32) (x2 : Int32) (x3 : Int32) : Prop := ∀ (X25 : Int32 → Int32 → Int32 → Prop) (X80 : Int32 → Int32 → Int32 → Int32 → Prop), zX3_wrong post I R CI CJ CR CG EI ER Eq En V X25 X80 → X25 x1 x2 x3
def qX3_wrong_80 (post : Int32 → Prop) (I : Nat → Int32) (R : Nat → Nat → Int32) (CI : Nat → Int32) (CJ : Nat → Int64) (CR : Nat → Nat → Int32) (CG : Nat → Nat → Int64) (EI : Nat → Int32) (ER : Nat → Nat → Int32) (Eq : Nat) (En : Nat) (V : vS) (x1 : Int32) (x3 : Int32) (k0 : Int32) (k1 : Int32) : Prop := ∀ (X25 : Int32 → Int32 → Int32 → Prop) (X80 : Int32 → Int32 → Int32 → Int32 → Prop), zX3_wrong post I R CI CJ CR CG EI ER Eq En V X25 X80 → X80 x1 x3 k0 k1
theorem kX3_wrong_25 {post : Int32 → Prop} {I : Nat → Int32} {R : Nat → Nat → Int32} {CI : Nat → Int32} {CJ : Nat → Int64} {CR : Nat → Nat → Int32} {CG : Nat → Nat → Int64} {EI : Nat → Int32} {ER : Nat → Nat → Int32} {Eq : Nat} {En : Nat} {V : vS} {x1 : Int32} {x2 : Int32} {x3 : Int32} (h : (((I 2) ≤ x3) → (((x2 = 0) → (post (0 : Int32))) ∧ ((¬ x2 = 0) → (post (3 : Int32))))) ∧ ((¬ (I 2) ≤ x3) → (((((x1 >>> (x3 &&& 31)) &&& (1 : Int32)) = 0) → (qX3_wrong_25 post I R CI CJ CR CG EI ER Eq En V x1 x2 (x3 + (1 : Int32)))) ∧ ((¬ ((x1 >>> (x3 &&& 31)) &&& (1 : Int32)) = 0) → (∃ Pc_3 : Int32 → Prop, qX3_chosenShowing Pc_3 ((1 : Int32) <<< (x3 &&& 31)) I R CI CJ CR CG EI ER Eq En V ∧ (∀ (rc_3 : Int32), Pc_3 rc_3 → ((((R 5 1) ≤ rc_3) → (((rc_3 ≤ (R 5 2)) → (qX3_wrong_80 post I R CI CJ CR CG EI ER Eq En V x1 x3 (0 : Int32) x2)) ∧ ((¬ rc_3 ≤ (R 5 2)) → (qX3_wrong_80 post I R CI CJ CR CG EI ER Eq En V x1 x3 (1 : Int32) x2)))) ∧ ((¬ (R 5 1) ≤ rc_3) → (post (2 : Int32)))))))))) : qX3_wrong_25 post I R CI CJ CR CG EI ER Eq En V x1 x2 x3 := by
  intro Z25 Z80 hcl
  refine hcl.1 x1 x2 x3 ?_
  refine ⟨fun c => ?_, fun c => ?_⟩
  · have h := h.1 c
    refine ⟨fun c => ?_, fun c => ?_⟩
    · have h := h.1 c
      exact h
    · have h := h.2 c
      exact h
  · have h := h.2 c
    refine ⟨fun c => ?_, fun c => ?_⟩
    · have h := h.1 c
      exact h _ _ hcl
    · have h := h.2 c
      obtain ⟨P, h1, h2⟩ := h
      refine ⟨P, h1, fun b0 hp => ?_⟩
      have h := h2 b0 hp
      refine ⟨fun c => ?_, fun c => ?_⟩
      · have h := h.1 c
        refine ⟨fun c => ?_, fun c => ?_⟩
        · have h := h.1 c
          exact h _ _ hcl
        · have h := h.2 c
          exact h _ _ hcl
      · have h := h.2 c
        exact h
theorem kX3_wrong_80 {post : Int32 → Prop} {I : Nat → Int32} {R : Nat → Nat → Int32} {CI : Nat → Int32} {CJ : Nat → Int64} {CR : Nat → Nat → Int32} {CG : Nat → Nat → Int64} {EI : Nat → Int32} {ER : Nat → Nat → Int32} {Eq : Nat} {En : Nat} {V : vS} {x1 : Int32} {x3 : Int32} {k0 : Int32} {k1 : Int32} (h : ∀ x2_4 : Int32, x2_4 = k1 ||| k0 → (qX3_wrong_25 post I R CI CJ CR CG EI ER Eq En V x1 x2_4 (x3 + (1 : Int32)))) : qX3_wrong_80 post I R CI CJ CR CG EI ER Eq En V x1 x3 k0 k1 := by
  intro Z25 Z80 hcl
  refine hcl.2 x1 x3 k0 k1 ?_
  intro x e
  have h := h x e
  exact h _ _ hcl
def qX3_wrong (post : Int32 → Prop) (I : Nat → Int32) (R : Nat → Nat → Int32) (CI : Nat → Int32) (CJ : Nat → Int64) (CR : Nat → Nat → Int32) (CG : Nat → Nat → Int64) (EI : Nat → Int32) (ER : Nat → Nat → Int32) (Eq : Nat) (En : Nat) (V : vS) : Prop := ∃ Pc_1 : Int32 → Prop, qX3_goodPictures Pc_1  I R CI CJ CR CG EI ER Eq En V ∧ (∀ (rc_1 : Int32), Pc_1 rc_1 → (((((I 6) &&& (rc_1 ^^^ (-1 : Int32))) = 0) → (∃ Pc_2 : Int32 → Prop, qX3_childrenInGood Pc_2  I R CI CJ CR CG EI ER Eq En V ∧ (∀ (rc_2 : Int32), Pc_2 rc_2 → (qX3_wrong_25 post I R CI CJ CR CG EI ER Eq En V rc_2 (0 : Int32) (0 : Int32))))) ∧ ((¬ ((I 6) &&& (rc_1 ^^^ (-1 : Int32))) = 0) → (post (1 : Int32)))))
theorem mX3_wrong_f85 : Cond.fieldLink RX3 85 "YearBook" "choice" "I" ∈ wsX3_wrong := by decide +kernel
theorem nX3_wrong_X3 : ∀ w ∈ u_ws RX3 TX3 9, w ∈ wsX3_wrong := by decide +kernel
theorem mX3_wrong_f43 : Cond.fieldLink RX3 43 "YearBook" "children" "I" ∈ wsX3_wrong := by decide +kernel
theorem mX3_wrong_f22 : Cond.fieldLink RX3 22 "YearBook" "settings" "[I" ∈ wsX3_wrong := by decide +kernel
set_option maxHeartbeats 4000000 in
set_option maxRecDepth 100000 in
theorem tX3_wrong (l : Launch) (dC : Nat → ClassId) (dI : Nat → Nat → Nat) (cI : ClassId) (cJ : ClassId) (cP : ClassId) (h : Nat) (ad ad0 ad1 : Nat → Nat)  (sz : Nat) (post : Int32 → Prop) (I : Nat → Int32) (R : Nat → Nat → Int32) (CI : Nat → Int32) (CJ : Nat → Int64) (CR : Nat → Nat → Int32) (CG : Nat → Nat → Int64) (EI : Nat → Int32) (ER : Nat → Nat → Int32) (Eq : Nat) (En : Nat) (V : vS) (hq : qX3_wrong post I R CI CJ CR CG EI ER Eq En V) : Met l yX3_wrong wsX3_wrong ({ frames := 3, cells := 0, slots := 0, locals := 66 } : Room) (va_Pc [.ref h] (wPreN (dC, dI) vwCl [(cI, .int), (cJ, .long), (cP, .object "YearBook$Picture")] (wd3 cI cJ cP h ad ad0 ad1 I R CI CJ CR CG EI ER Eq En V) sz)) (va_Qi (fun r (_ : Unit) => post r ) (wAt (dC, dI) vwCl [(cI, .int), (cJ, .long), (cP, .object "YearBook$Picture")] (va_A (wd3 cI cJ cP h ad ad0 ad1 I R CI CJ CR CG EI ER Eq En V) sz) (fun _ : Unit => wd3 cI cJ cP h ad ad0 ad1 I R CI CJ CR CG EI ER Eq En V)) (va_A (wd3 cI cJ cP h ad ad0 ad1 I R CI CJ CR CG EI ER Eq En V) sz)) 0 0 (va_A (wd3 cI cJ cP h ad ad0 ad1 I R CI CJ CR CG EI ER Eq En V) sz) := by
  unfold qX3_wrong at hq
  refine Met.ofW (cc := cX3_wrong) (maxL := 5) (ret := (some .int)) (by decide) rfl ?_
  intro p e s m args below meth c s₁ B hml hv
  obtain ⟨rfl, ⟨hsz, hP, hK, hD0⟩, hn⟩ := hv
  have hx := B.exec
  have hb := B.bytes
  have hr := B.returns
  have hts := atoms_spec (ws := wsX3_wrong) B.pre
  have hown : s.vm.findClass RX3 = some m.cls := findClass_of_methodNamed B.named
  have hlocks := B.notSynchronized
  subst hsz
  have hD := hD0.self (sz := s.heap.size)
  generalize hAe : va_A (wd3 cI cJ cP h ad ad0 ad1 I R CI CJ CR CG EI ER Eq En V) s.heap.size = A at hD ⊢
  have hA : ∀ q : Nat, s.heap.size ≤ q → A q := fun q h => by rw [← hAe]; exact Or.inr h
  have hS : va_S A s.heap s.heap [] := va_S.rf
  have hZ : zX3_wrong post I R CI CJ CR CG EI ER Eq En V
      (fun (x1 : Int32) (x2 : Int32) (x3 : Int32) => ∀ (H : Heap) (locs : List Loc) (ls : Array Slot), va_P (dC, dI) vwCl (wd3 cI cJ cP h ad ad0 ad1 I R CI CJ CR CG EI ER Eq En V) H → va_D A (wd3 cI cJ cP h ad ad0 ad1 I R CI CJ CR CG EI ER Eq En V) → va_S A s.heap H locs → lv_has ls 5 [(0, .ref h), (1, .int x1), (2, .int x2), (3, .int x3)] → W p l e (headSpec wsX3_wrong ({ frames := 3, cells := 0, slots := 0, locals := 66 } : Room)).room s m ([.ref h] : List Value).toArray below meth c H locs 0 0 (MQ below (va_Qi (fun r (_ : Unit) => post r ) (wAt (dC, dI) vwCl [(cI, .int), (cJ, .long), (cP, .object "YearBook$Picture")] A (fun _ : Unit => wd3 cI cJ cP h ad ad0 ad1 I R CI CJ CR CG EI ER Eq En V)) A) ([.ref h] : List Value).toArray s 0 0 A) (F0 m 25 ls []))
      (fun (x1 : Int32) (x3 : Int32) (k0 : Int32) (k1 : Int32) => ∀ (H : Heap) (locs : List Loc) (ls : Array Slot), va_P (dC, dI) vwCl (wd3 cI cJ cP h ad ad0 ad1 I R CI CJ CR CG EI ER Eq En V) H → va_D A (wd3 cI cJ cP h ad ad0 ad1 I R CI CJ CR CG EI ER Eq En V) → va_S A s.heap H locs → lv_has ls 5 [(0, .ref h), (1, .int x1), (3, .int x3)] → W p l e (headSpec wsX3_wrong ({ frames := 3, cells := 0, slots := 0, locals := 66 } : Room)).room s m ([.ref h] : List Value).toArray below meth c H locs 0 0 (MQ below (va_Qi (fun r (_ : Unit) => post r ) (wAt (dC, dI) vwCl [(cI, .int), (cJ, .long), (cP, .object "YearBook$Picture")] A (fun _ : Unit => wd3 cI cJ cP h ad ad0 ad1 I R CI CJ CR CG EI ER Eq En V)) A) ([.ref h] : List Value).toArray s 0 0 A) (F0 m 80 ls [.int k0, .int k1])) := by
    refine ⟨?_, ?_⟩
    · intro x1 x2 x3 hq H locs ls hP hD hS hl
      refine lv_iload_n hx hb dX3_wrong_25 rfl (lv_at hl 3 rfl) ?_
      refine lv_aload_n hx hb dX3_wrong_26 rfl (lv_at hl 0 rfl) ?_
      refine va_get (D := (dC, dI)) (ci := 3) (v := .int (I 2)) (C := RX3) (T := TX3) (N := 9) hx hb hts nX3_wrong_X3 hown hK hP 0 rfl rfl 2 (by decide) (hts _ mX3_wrong_f43) (fun _ h9 => h9) rfl dX3_wrong_27 ?_
      refine lv_icmp_ge (tgt := 88) hx hb dX3_wrong_30 (by decide) (fun hc => ?_) (fun hc => ?_)
      · have hq := hq.1 hc
        refine lv_iload_n hx hb dX3_wrong_88 rfl (lv_at hl 2 rfl) ?_
        refine lv_if_eq (tgt := 96) hx hb dX3_wrong_89 (by decide) (fun hc => ?_) (fun hc => ?_)
        · have hq := hq.1 hc
          refine lv_iconst (v := (0 : Int32)) hx hb dX3_wrong_96 (by decide) ?_
          exact w_iret (post := fun r (_ : Unit) => post r ) (wf := fun _ : Unit => wd3 cI cJ cP h ad ad0 ad1 I R CI CJ CR CG EI ER Eq En V) (u := ()) hx hb hr hK hP hD hS hq dX3_wrong_97 hlocks
        · have hq := hq.2 hc
          refine lv_iconst (v := (3 : Int32)) hx hb dX3_wrong_92 (by decide) ?_
          refine lv_goto (tgt := 97) hx hb dX3_wrong_93 (by decide) ?_
          exact w_iret (post := fun r (_ : Unit) => post r ) (wf := fun _ : Unit => wd3 cI cJ cP h ad ad0 ad1 I R CI CJ CR CG EI ER Eq En V) (u := ()) hx hb hr hK hP hD hS hq dX3_wrong_97 hlocks
      · have hq := hq.2 hc
        refine lv_iload_n hx hb dX3_wrong_33 rfl (lv_at hl 1 rfl) ?_
        refine lv_iload_n hx hb dX3_wrong_34 rfl (lv_at hl 3 rfl) ?_
        refine lv_ishr hx hb dX3_wrong_35 ?_
        refine lv_iconst (v := (1 : Int32)) hx hb dX3_wrong_36 (by decide) ?_
        refine lv_iand hx hb dX3_wrong_37 ?_
        refine lv_if_eq (tgt := 82) hx hb dX3_wrong_38 (by decide) (fun hc => ?_) (fun hc => ?_)
        · have hq := hq.1 hc
          refine lv_iinc (v := x3 + (1 : Int32)) (lv' := [(3, .int (x3 + (1 : Int32))), (0, .ref h), (1, .int x1), (2, .int x2)]) hx hb dX3_wrong_82 hl (k := 3) rfl rfl (by decide) rfl (fun ls hl => ?_)
          refine lv_goto (tgt := 25) hx hb dX3_wrong_85 (by decide) ?_
          exact hq _ _ ls hP hD hS (lv_sub hl [1, 2, 3, 0] rfl)
        · have hq := hq.2 hc
          refine lv_aload_n hx hb dX3_wrong_41 rfl (lv_at hl 0 rfl) ?_
          refine lv_iconst (v := (1 : Int32)) hx hb dX3_wrong_42 (by decide) ?_
          refine lv_iload_n hx hb dX3_wrong_43 rfl (lv_at hl 3 rfl) ?_
          refine lv_ishl hx hb dX3_wrong_44 ?_
          obtain ⟨Pc_3, hc, hq⟩ := hq
          refine w_calli (wf := fun _ : Unit => wd3 cI cJ cP h ad ad0 ad1 I R CI CJ CR CG EI ER Eq En V) (va_runV (As := [.int ((1 : Int32) <<< (x3 &&& 31))]) (rest := []) ⟨hx, hb, hml, hown, hts⟩ (tX3_chosenShowing l dC dI cI cJ cP h ad ad0 ad1 _ Pc_3 ((1 : Int32) <<< (x3 &&& 31)) I R CI CJ CR CG EI ER Eq En V hc) (cwV 1 hts gX3_wrong_X3_chosenShowing rfl rfl rfl (by decide +kernel) ⟨Nat.le_of_ble_eq_true rfl, Nat.le_of_ble_eq_true rfl⟩) (wPreVN hn hK hP hD (ci := 3) (q0 := 0) rfl rfl) rfl rfl hl.1 rfl (lv_room (Nat.le_of_ble_eq_true rfl)) dX3_wrong_45 ⟨Nat.le_of_ble_eq_true rfl, Nat.le_of_ble_eq_true rfl⟩) hD hS hA (fun rc_3 u H locs hp hP hD hS => ?_)
          have hq := hq rc_3 hp
          have hP : va_P (dC, dI) vwCl (wd3 cI cJ cP h ad ad0 ad1 I R CI CJ CR CG EI ER Eq En V) H := hP
          have hD : va_D A (wd3 cI cJ cP h ad ad0 ad1 I R CI CJ CR CG EI ER Eq En V) := hD
          refine lv_istore (lv' := [(4, .int rc_3), (0, .ref h), (1, .int x1), (2, .int x2), (3, .int x3)]) hx hb dX3_wrong_48 hl (by decide) rfl (fun ls hl => ?_)
          refine lv_iload hx hb dX3_wrong_50 (lv_at hl 0 rfl) ?_
          refine lv_aload_n hx hb dX3_wrong_52 rfl (lv_at hl 1 rfl) ?_
          refine va_get (D := (dC, dI)) (ci := 3) (v := .ref (ad 5)) (C := RX3) (T := TX3) (N := 9) hx hb hts nX3_wrong_X3 hown hK hP 0 rfl rfl 5 (by decide) (hts _ mX3_wrong_f22) (fun _ h9 => h9) rfl dX3_wrong_53 ?_
          refine lv_iconst (v := (1 : Int32)) hx hb dX3_wrong_56 (by decide) ?_
          refine va_ialdk (f := R 5) hx hb hK hP 4 0 rfl rfl 1 (by decide) (by unfold vp_in; decide) dX3_wrong_57 ?_
          refine lv_icmp_ge (tgt := 63) hx hb dX3_wrong_58 (by decide) (fun hc => ?_) (fun hc => ?_)
          · have hq := hq.1 hc
            refine lv_iload_n hx hb dX3_wrong_63 rfl (lv_at hl 3 rfl) ?_
            refine lv_iload hx hb dX3_wrong_64 (lv_at hl 0 rfl) ?_
            refine lv_aload_n hx hb dX3_wrong_66 rfl (lv_at hl 1 rfl) ?_
            refine va_get (D := (dC, dI)) (ci := 3) (v := .ref (ad 5)) (C := RX3) (T := TX3) (N := 9) hx hb hts nX3_wrong_X3 hown hK hP 0 rfl rfl 5 (by decide) (hts _ mX3_wrong_f22) (fun _ h9 => h9) rfl dX3_wrong_67 ?_
            refine lv_iconst (v := (2 : Int32)) hx hb dX3_wrong_70 (by decide) ?_
            refine va_ialdk (f := R 5) hx hb hK hP 4 0 rfl rfl 2 (by decide) (by unfold vp_in; decide) dX3_wrong_71 ?_
            refine lv_icmp_le (tgt := 79) hx hb dX3_wrong_72 (by decide) (fun hc => ?_) (fun hc => ?_)
            · have hq := hq.1 hc
              refine lv_iconst (v := (0 : Int32)) hx hb dX3_wrong_79 (by decide) ?_
              exact hq _ _ ls hP hD hS (lv_sub hl [1, 2, 4] rfl)
            · have hq := hq.2 hc
              refine lv_iconst (v := (1 : Int32)) hx hb dX3_wrong_75 (by decide) ?_
              refine lv_goto (tgt := 80) hx hb dX3_wrong_76 (by decide) ?_
              exact hq _ _ ls hP hD hS (lv_sub hl [1, 2, 4] rfl)
          · have hq := hq.2 hc
            refine lv_iconst (v := (2 : Int32)) hx hb dX3_wrong_61 (by decide) ?_
            exact w_iret (post := fun r (_ : Unit) => post r ) (wf := fun _ : Unit => wd3 cI cJ cP h ad ad0 ad1 I R CI CJ CR CG EI ER Eq En V) (u := ()) hx hb hr hK hP hD hS hq dX3_wrong_62 hlocks
    · intro x1 x3 k0 k1 hq H locs ls hP hD hS hl
      refine lv_ior hx hb dX3_wrong_80 ?_
      refine lv_topi (fun x2_4 ex2_4 => ?_)
      have hq := hq x2_4 ex2_4
      refine lv_istore_n (lv' := [(2, .int x2_4), (0, .ref h), (1, .int x1), (3, .int x3)]) hx hb dX3_wrong_81 rfl hl (by decide) rfl (fun ls hl => ?_)
      refine lv_iinc (v := x3 + (1 : Int32)) (lv' := [(3, .int (x3 + (1 : Int32))), (2, .int x2_4), (0, .ref h), (1, .int x1)]) hx hb dX3_wrong_82 hl (k := 3) rfl rfl (by decide) rfl (fun ls hl => ?_)
      refine lv_goto (tgt := 25) hx hb dX3_wrong_85 (by decide) ?_
      exact hq _ _ ls hP hD hS (lv_sub hl [2, 3, 1, 0] rfl)
  have hl := lv_entry ([.ref h]) (n := 5) (Nat.le_of_ble_eq_true rfl)
  rw [lg_entry_eq]
  generalize (lg_sl ([.ref h]) ++ List.replicate (5 - (lg_sl ([.ref h])).length) Slot.unset).toArray = ls at hl ⊢
  have hl : lv_has ls 5 [(0, .ref h)] := hl
  refine lv_aload_n hx hb dX3_wrong_0 rfl (lv_at hl 0 rfl) ?_
  refine va_get (D := (dC, dI)) (ci := 3) (v := .int (I 6)) (C := RX3) (T := TX3) (N := 9) hx hb hts nX3_wrong_X3 hown hK hP 0 rfl rfl 6 (by decide) (hts _ mX3_wrong_f85) (fun _ h9 => h9) rfl dX3_wrong_1 ?_
  refine lv_aload_n hx hb dX3_wrong_4 rfl (lv_at hl 0 rfl) ?_
  obtain ⟨Pc_1, hc, hq⟩ := hq
  refine w_calli (wf := fun _ : Unit => wd3 cI cJ cP h ad ad0 ad1 I R CI CJ CR CG EI ER Eq En V) (va_runV (As := []) (rest := [.int (I 6)]) ⟨hx, hb, hml, hown, hts⟩ (tX3_goodPictures l dC dI cI cJ cP h ad ad0 ad1 _ Pc_1  I R CI CJ CR CG EI ER Eq En V hc) (cwV 0 hts gX3_wrong_X3_goodPictures rfl rfl rfl (by decide +kernel) ⟨Nat.le_of_ble_eq_true rfl, Nat.le_of_ble_eq_true rfl⟩) (wPreVN hn hK hP hD (ci := 3) (q0 := 0) rfl rfl) rfl rfl hl.1 rfl (lv_room (Nat.le_of_ble_eq_true rfl)) dX3_wrong_5 ⟨Nat.le_of_ble_eq_true rfl, Nat.le_of_ble_eq_true rfl⟩) hD hS hA (fun rc_1 u H locs hp hP hD hS => ?_)
  have hq := hq rc_1 hp
  have hP : va_P (dC, dI) vwCl (wd3 cI cJ cP h ad ad0 ad1 I R CI CJ CR CG EI ER Eq En V) H := hP
  have hD : va_D A (wd3 cI cJ cP h ad ad0 ad1 I R CI CJ CR CG EI ER Eq En V) := hD
  refine lv_iconst (v := (-1 : Int32)) hx hb dX3_wrong_8 (by decide) ?_
  refine lv_ixor hx hb dX3_wrong_9 ?_
  refine lv_iand hx hb dX3_wrong_10 ?_
  refine lv_if_eq (tgt := 16) hx hb dX3_wrong_11 (by decide) (fun hc => ?_) (fun hc => ?_)
  · have hq := hq.1 hc
    refine lv_aload_n hx hb dX3_wrong_16 rfl (lv_at hl 0 rfl) ?_
    obtain ⟨Pc_2, hc, hq⟩ := hq
    refine w_calli (wf := fun _ : Unit => wd3 cI cJ cP h ad ad0 ad1 I R CI CJ CR CG EI ER Eq En V) (va_runV (As := []) (rest := []) ⟨hx, hb, hml, hown, hts⟩ (tX3_childrenInGood l dC dI cI cJ cP h ad ad0 ad1 _ Pc_2  I R CI CJ CR CG EI ER Eq En V hc) (cwV 0 hts gX3_wrong_X3_childrenInGood rfl rfl rfl (by decide +kernel) ⟨Nat.le_of_ble_eq_true rfl, Nat.le_of_ble_eq_true rfl⟩) (wPreVN hn hK hP hD (ci := 3) (q0 := 0) rfl rfl) rfl rfl hl.1 rfl (lv_room (Nat.le_of_ble_eq_true rfl)) dX3_wrong_17 ⟨Nat.le_of_ble_eq_true rfl, Nat.le_of_ble_eq_true rfl⟩) hD hS hA (fun rc_2 u H locs hp hP hD hS => ?_)
    have hq := hq rc_2 hp
    have hP : va_P (dC, dI) vwCl (wd3 cI cJ cP h ad ad0 ad1 I R CI CJ CR CG EI ER Eq En V) H := hP
    have hD : va_D A (wd3 cI cJ cP h ad ad0 ad1 I R CI CJ CR CG EI ER Eq En V) := hD
    refine lv_istore_n (lv' := [(1, .int rc_2), (0, .ref h)]) hx hb dX3_wrong_20 rfl hl (by decide) rfl (fun ls hl => ?_)
    refine lv_iconst (v := (0 : Int32)) hx hb dX3_wrong_21 (by decide) ?_
    refine lv_istore_n (lv' := [(2, .int (0 : Int32)), (1, .int rc_2), (0, .ref h)]) hx hb dX3_wrong_22 rfl hl (by decide) rfl (fun ls hl => ?_)
    refine lv_iconst (v := (0 : Int32)) hx hb dX3_wrong_23 (by decide) ?_
    refine lv_istore_n (lv' := [(3, .int (0 : Int32)), (2, .int (0 : Int32)), (1, .int rc_2), (0, .ref h)]) hx hb dX3_wrong_24 rfl hl (by decide) rfl (fun ls hl => ?_)
    exact hq _ _ hZ _ _ ls hP hD hS (lv_sub hl [3, 2, 1, 0] rfl)
  · have hq := hq.2 hc
    refine lv_iconst (v := (1 : Int32)) hx hb dX3_wrong_14 (by decide) ?_
    exact w_iret (post := fun r (_ : Unit) => post r ) (wf := fun _ : Unit => wd3 cI cJ cP h ad ad0 ad1 I R CI CJ CR CG EI ER Eq En V) (u := ()) hx hb hr hK hP hD hS hq dX3_wrong_15 hlocks
