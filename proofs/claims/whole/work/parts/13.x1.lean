def zX1_pointsOf (post : Int32 → Prop) (p1 : Int32) (I : Nat → Int32) (R : Nat → Nat → Int32) (q : Nat) (n : Nat) (X4 : Int32 → Int32 → Prop) : Prop :=
  (∀ (x2 : Int32) (x3 : Int32), ((((I 1) ≤ x3) → (post x2)) ∧ ((¬ (I 1) ≤ x3) → (((((p1 >>> (x3 &&& 31)) &&& (1 : Int32)) = 0) → (X4 x2 (x3 + (1 : Int32)))) ∧ ((¬ ((p1 >>> (x3 &&& 31)) &&& (1 : Int32)) = 0) → (vp_in x3 14 ∧ (∀ x2_2 : Int32, x2_2 = x2 + (R 0 x3.toNatClampNeg) → (X4 x2_2 (x3 + (1 : Int32))))))))) → X4 x2 x3)
def qX1_pointsOf_4 (post : Int32 → Prop) (p1 : Int32) (I : Nat → Int32) (R : Nat → Nat → Int32) (q : Nat) (n : Nat) (x2 : Int32) (x3 : Int32) : Prop := ∀ (X4 : Int32 → Int32 → Prop), zX1_pointsOf post p1 I R q n X4 → X4 x2 x3
theorem kX1_pointsOf_4 {post : Int32 → Prop} {p1 : Int32} {I : Nat → Int32} {R : Nat → Nat → Int32} {q : Nat} {n : Nat} {x2 : Int32} {x3 : Int32} (h : (((I 1) ≤ x3) → (post x2)) ∧ ((¬ (I 1) ≤ x3) → (((((p1 >>> (x3 &&& 31)) &&& (1 : Int32)) = 0) → (qX1_pointsOf_4 post p1 I R q n x2 (x3 + (1 : Int32)))) ∧ ((¬ ((p1 >>> (x3 &&& 31)) &&& (1 : Int32)) = 0) → (vp_in x3 14 ∧ (∀ x2_2 : Int32, x2_2 = x2 + (R 0 x3.toNatClampNeg) → (qX1_pointsOf_4 post p1 I R q n x2_2 (x3 + (1 : Int32))))))))) : qX1_pointsOf_4 post p1 I R q n x2 x3 := by
  intro Z4 hcl
  refine hcl x2 x3 ?_
  refine ⟨fun c => ?_, fun c => ?_⟩
  · have h := h.1 c
    exact h
  · have h := h.2 c
    refine ⟨fun c => ?_, fun c => ?_⟩
    · have h := h.1 c
      exact h _ hcl
    · have h := h.2 c
      refine ⟨h.1, ?_⟩
      have h := h.2
      intro x e
      have h := h x e
      exact h _ hcl
def qX1_pointsOf (post : Int32 → Prop) (p1 : Int32) (I : Nat → Int32) (R : Nat → Nat → Int32) (q : Nat) (n : Nat) : Prop := qX1_pointsOf_4 post p1 I R q n (0 : Int32) (0 : Int32)
theorem mX1_pointsOf_f21 : Cond.fieldLink RX1 21 "YearBook$Pages" "pictures" "I" ∈ wsX1_pointsOf := by decide +kernel
theorem nX1_pointsOf_X1 : ∀ w ∈ u_ws RX1 TX1 10, w ∈ wsX1_pointsOf := by decide +kernel
theorem mX1_pointsOf_f9 : Cond.fieldLink RX1 9 "YearBook$Pages" "sizes" "[I" ∈ wsX1_pointsOf := by decide +kernel
set_option maxHeartbeats 4000000 in
set_option maxRecDepth 100000 in
theorem tX1_pointsOf (l : Launch) (dC : Nat → ClassId) (dI : Nat → Nat → Nat) (cI : ClassId) (h : Nat) (ad : Nat → Nat)  (sz : Nat) (post : Int32 → Prop) (p1 : Int32) (I : Nat → Int32) (R : Nat → Nat → Int32) (q : Nat) (n : Nat) (hq : qX1_pointsOf post p1 I R q n) : Met l yX1_pointsOf wsX1_pointsOf ({ frames := 0, cells := 0, slots := 0, locals := 0 } : Room) (va_Pc [.ref h, .int p1] (wPre (dC, dI) vwCl [(cI, .int)] (wd1 cI h ad I R q n) sz)) (va_Qi (fun r (_ : Unit) => post r ) (wAt (dC, dI) vwCl [(cI, .int)] (va_A (wd1 cI h ad I R q n) sz) (fun _ : Unit => wd1 cI h ad I R q n)) (va_A (wd1 cI h ad I R q n) sz)) 0 0 (va_A (wd1 cI h ad I R q n) sz) := by
  unfold qX1_pointsOf at hq
  refine Met.ofW (cc := cX1_pointsOf) (maxL := 4) (ret := (some .int)) (by decide) rfl ?_
  intro p e s m args below meth c s₁ B hml hv
  obtain ⟨rfl, hsz, hP, hK, hD0⟩ := hv
  have hx := B.exec
  have hb := B.bytes
  have hr := B.returns
  have hts := atoms_spec (ws := wsX1_pointsOf) B.pre
  have hown : s.vm.findClass RX1 = some m.cls := findClass_of_methodNamed B.named
  have hlocks := B.notSynchronized
  subst hsz
  have hD := hD0.self (sz := s.heap.size)
  generalize hAe : va_A (wd1 cI h ad I R q n) s.heap.size = A at hD ⊢
  have hA : ∀ q : Nat, s.heap.size ≤ q → A q := fun q h => by rw [← hAe]; exact Or.inr h
  have hS : va_S A s.heap s.heap [] := va_S.rf
  have hZ : zX1_pointsOf post p1 I R q n
      (fun (x2 : Int32) (x3 : Int32) => ∀ (H : Heap) (locs : List Loc) (ls : Array Slot), va_P (dC, dI) vwCl (wd1 cI h ad I R q n) H → va_D A (wd1 cI h ad I R q n) → va_S A s.heap H locs → lv_has ls 4 [(0, .ref h), (1, .int p1), (2, .int x2), (3, .int x3)] → W p l e (headSpec wsX1_pointsOf ({ frames := 0, cells := 0, slots := 0, locals := 0 } : Room)).room s m ([.ref h, .int p1] : List Value).toArray below meth c H locs 0 0 (MQ below (va_Qi (fun r (_ : Unit) => post r ) (wAt (dC, dI) vwCl [(cI, .int)] A (fun _ : Unit => wd1 cI h ad I R q n)) A) ([.ref h, .int p1] : List Value).toArray s 0 0 A) (F0 m 4 ls [])) := by
    unfold zX1_pointsOf
    intro x2 x3 hq H locs ls hP hD hS hl
    refine lv_iload_n hx hb dX1_pointsOf_4 rfl (lv_at hl 3 rfl) ?_
    refine lv_aload_n hx hb dX1_pointsOf_5 rfl (lv_at hl 0 rfl) ?_
    refine va_get (D := (dC, dI)) (ci := 1) (v := .int (I 1)) (C := RX1) (T := TX1) (N := 10) hx hb hts nX1_pointsOf_X1 hown hK hP 0 rfl rfl 1 (by decide) (hts _ mX1_pointsOf_f21) (fun _ h9 => h9) rfl dX1_pointsOf_6 ?_
    refine lv_icmp_ge (tgt := 35) hx hb dX1_pointsOf_9 (by decide) (fun hc => ?_) (fun hc => ?_)
    · have hq := hq.1 hc
      refine lv_iload_n hx hb dX1_pointsOf_35 rfl (lv_at hl 2 rfl) ?_
      exact w_iret (post := fun r (_ : Unit) => post r ) (wf := fun _ : Unit => wd1 cI h ad I R q n) (u := ()) hx hb hr hK hP hD hS hq dX1_pointsOf_36 hlocks
    · have hq := hq.2 hc
      refine lv_iload_n hx hb dX1_pointsOf_12 rfl (lv_at hl 1 rfl) ?_
      refine lv_iload_n hx hb dX1_pointsOf_13 rfl (lv_at hl 3 rfl) ?_
      refine lv_ishr hx hb dX1_pointsOf_14 ?_
      refine lv_iconst (v := (1 : Int32)) hx hb dX1_pointsOf_15 (by decide) ?_
      refine lv_iand hx hb dX1_pointsOf_16 ?_
      refine lv_if_eq (tgt := 29) hx hb dX1_pointsOf_17 (by decide) (fun hc => ?_) (fun hc => ?_)
      · have hq := hq.1 hc
        refine lv_iinc (v := x3 + (1 : Int32)) (lv' := [(3, .int (x3 + (1 : Int32))), (0, .ref h), (1, .int p1), (2, .int x2)]) hx hb dX1_pointsOf_29 hl (k := 3) rfl rfl (by decide) rfl (fun ls hl => ?_)
        refine lv_goto (tgt := 4) hx hb dX1_pointsOf_32 (by decide) ?_
        exact hq _ _ ls hP hD hS (lv_sub hl [1, 2, 3, 0] rfl)
      · have hq := hq.2 hc
        refine lv_iload_n hx hb dX1_pointsOf_20 rfl (lv_at hl 2 rfl) ?_
        refine lv_aload_n hx hb dX1_pointsOf_21 rfl (lv_at hl 0 rfl) ?_
        refine va_get (D := (dC, dI)) (ci := 1) (v := .ref (ad 0)) (C := RX1) (T := TX1) (N := 10) hx hb hts nX1_pointsOf_X1 hown hK hP 0 rfl rfl 0 (by decide) (hts _ mX1_pointsOf_f9) (fun _ h9 => h9) rfl dX1_pointsOf_22 ?_
        refine lv_iload_n hx hb dX1_pointsOf_25 rfl (lv_at hl 3 rfl) ?_
        obtain ⟨hi_1, hq⟩ := hq
        refine va_iald (f := R 0) hx hb hK hP 1 0 rfl rfl hi_1 dX1_pointsOf_26 ?_
        refine lv_iadd hx hb dX1_pointsOf_27 ?_
        refine lv_topi (fun x2_2 ex2_2 => ?_)
        have hq := hq x2_2 ex2_2
        refine lv_istore_n (lv' := [(2, .int x2_2), (0, .ref h), (1, .int p1), (3, .int x3)]) hx hb dX1_pointsOf_28 rfl hl (by decide) rfl (fun ls hl => ?_)
        refine lv_iinc (v := x3 + (1 : Int32)) (lv' := [(3, .int (x3 + (1 : Int32))), (2, .int x2_2), (0, .ref h), (1, .int p1)]) hx hb dX1_pointsOf_29 hl (k := 3) rfl rfl (by decide) rfl (fun ls hl => ?_)
        refine lv_goto (tgt := 4) hx hb dX1_pointsOf_32 (by decide) ?_
        exact hq _ _ ls hP hD hS (lv_sub hl [2, 3, 1, 0] rfl)
  have hl := lv_entry ([.ref h, .int p1]) (n := 4) (Nat.le_of_ble_eq_true rfl)
  rw [lg_entry_eq]
  generalize (lg_sl ([.ref h, .int p1]) ++ List.replicate (4 - (lg_sl ([.ref h, .int p1])).length) Slot.unset).toArray = ls at hl ⊢
  have hl : lv_has ls 4 [(0, .ref h), (1, .int p1)] := hl
  refine lv_iconst (v := (0 : Int32)) hx hb dX1_pointsOf_0 (by decide) ?_
  refine lv_istore_n (lv' := [(2, .int (0 : Int32)), (0, .ref h), (1, .int p1)]) hx hb dX1_pointsOf_1 rfl hl (by decide) rfl (fun ls hl => ?_)
  refine lv_iconst (v := (0 : Int32)) hx hb dX1_pointsOf_2 (by decide) ?_
  refine lv_istore_n (lv' := [(3, .int (0 : Int32)), (2, .int (0 : Int32)), (0, .ref h), (1, .int p1)]) hx hb dX1_pointsOf_3 rfl hl (by decide) rfl (fun ls hl => ?_)
  exact hq _ hZ _ _ ls hP hD hS (lv_sub hl [2, 3, 1, 0] rfl)
def zX1_withOneMore (post : Int32 → Prop) (p1 : Int32) (p2 : Int32) (X16 : Int32 → Prop) : Prop :=
  (∀ (k0 : Int32), (((k0 = 0) → (post (((p1 &&& (-16 : Int32)) + (16 : Int32)) + p2))) ∧ ((¬ k0 = 0) → (post (p1 + p2)))) → X16 k0)
def qX1_withOneMore_16 (post : Int32 → Prop) (p1 : Int32) (p2 : Int32) (k0 : Int32) : Prop := ∀ (X16 : Int32 → Prop), zX1_withOneMore post p1 p2 X16 → X16 k0
theorem kX1_withOneMore_16 {post : Int32 → Prop} {p1 : Int32} {p2 : Int32} {k0 : Int32} (h : ((k0 = 0) → (post (((p1 &&& (-16 : Int32)) + (16 : Int32)) + p2))) ∧ ((¬ k0 = 0) → (post (p1 + p2)))) : qX1_withOneMore_16 post p1 p2 k0 := by
  intro Z16 hcl
  refine hcl k0 ?_
  refine ⟨fun c => ?_, fun c => ?_⟩
  · have h := h.1 c
    exact h
  · have h := h.2 c
    exact h
def qX1_withOneMore (post : Int32 → Prop) (p1 : Int32) (p2 : Int32) : Prop := (((12 : Int32) < ((p1 &&& (15 : Int32)) + p2)) → (qX1_withOneMore_16 post p1 p2 (0 : Int32))) ∧ ((¬ (12 : Int32) < ((p1 &&& (15 : Int32)) + p2)) → (qX1_withOneMore_16 post p1 p2 (1 : Int32)))
set_option maxHeartbeats 4000000 in
set_option maxRecDepth 100000 in
theorem tX1_withOneMore (l : Launch) (post : Int32 → Prop) (p1 : Int32) (p2 : Int32) (hq : qX1_withOneMore post p1 p2) : Met l yX1_withOneMore wsX1_withOneMore ({ frames := 0, cells := 0, slots := 0, locals := 0 } : Room) (fun v _ => v = ([.int p1, .int p2] : List Value).toArray) (vp_Si post) 0 0 (fun _ => False) := by
  unfold qX1_withOneMore at hq
  refine Met.ofW (cc := cX1_withOneMore) (maxL := 3) (ret := (some .int)) (by decide) rfl ?_
  intro p e s m args below meth c s₁ B hml hv
  obtain rfl := hv
  have hx := B.exec
  have hb := B.bytes
  have hr := B.returns
  have hts := atoms_spec (ws := wsX1_withOneMore) B.pre
  have hown : s.vm.findClass RX1 = some m.cls := findClass_of_methodNamed B.named
  have hlocks := B.notSynchronized
  have hZ : zX1_withOneMore post p1 p2
      (fun (k0 : Int32) => ∀ (ls : Array Slot), lv_has ls 3 [(0, .int p1), (1, .int p2)] → W p l e (headSpec wsX1_withOneMore ({ frames := 0, cells := 0, slots := 0, locals := 0 } : Room)).room s m ([.int p1, .int p2] : List Value).toArray below meth c s.heap [] 0 0 (MQ below (vp_Si post) ([.int p1, .int p2] : List Value).toArray s 0 0 (fun _ => False)) (F0 m 16 ls [.int k0])) := by
    unfold zX1_withOneMore
    intro k0 hq ls hl
    refine lv_istore_n (lv' := [(2, .int k0), (0, .int p1), (1, .int p2)]) hx hb dX1_withOneMore_16 rfl hl (by decide) rfl (fun ls hl => ?_)
    refine lv_iload_n hx hb dX1_withOneMore_17 rfl (lv_at hl 0 rfl) ?_
    refine lv_if_eq (tgt := 27) hx hb dX1_withOneMore_18 (by decide) (fun hc => ?_) (fun hc => ?_)
    · have hq := hq.1 hc
      refine lv_iload_n hx hb dX1_withOneMore_27 rfl (lv_at hl 1 rfl) ?_
      refine lv_bipush (v := (-16 : Int32)) hx hb dX1_withOneMore_28 (by decide) ?_
      refine lv_iand hx hb dX1_withOneMore_30 ?_
      refine lv_bipush (v := (16 : Int32)) hx hb dX1_withOneMore_31 (by decide) ?_
      refine lv_iadd hx hb dX1_withOneMore_33 ?_
      refine lv_iload_n hx hb dX1_withOneMore_34 rfl (lv_at hl 2 rfl) ?_
      refine lv_iadd hx hb dX1_withOneMore_35 ?_
      exact s_iret hx hb hr hq dX1_withOneMore_36 hlocks
    · have hq := hq.2 hc
      refine lv_iload_n hx hb dX1_withOneMore_21 rfl (lv_at hl 1 rfl) ?_
      refine lv_iload_n hx hb dX1_withOneMore_22 rfl (lv_at hl 2 rfl) ?_
      refine lv_iadd hx hb dX1_withOneMore_23 ?_
      refine lv_goto (tgt := 36) hx hb dX1_withOneMore_24 (by decide) ?_
      exact s_iret hx hb hr hq dX1_withOneMore_36 hlocks
  have hl := lv_entry ([.int p1, .int p2]) (n := 3) (Nat.le_of_ble_eq_true rfl)
  rw [lg_entry_eq]
  generalize (lg_sl ([.int p1, .int p2]) ++ List.replicate (3 - (lg_sl ([.int p1, .int p2])).length) Slot.unset).toArray = ls at hl ⊢
  have hl : lv_has ls 3 [(0, .int p1), (1, .int p2)] := hl
  refine lv_iload_n hx hb dX1_withOneMore_0 rfl (lv_at hl 0 rfl) ?_
  refine lv_bipush (v := (15 : Int32)) hx hb dX1_withOneMore_1 (by decide) ?_
  refine lv_iand hx hb dX1_withOneMore_3 ?_
  refine lv_iload_n hx hb dX1_withOneMore_4 rfl (lv_at hl 1 rfl) ?_
  refine lv_iadd hx hb dX1_withOneMore_5 ?_
  refine lv_bipush (v := (12 : Int32)) hx hb dX1_withOneMore_6 (by decide) ?_
  refine lv_icmp_gt (tgt := 15) hx hb dX1_withOneMore_8 (by decide) (fun hc => ?_) (fun hc => ?_)
  · have hq := hq.1 hc
    refine lv_iconst (v := (0 : Int32)) hx hb dX1_withOneMore_15 (by decide) ?_
    exact hq _ hZ ls (lv_sub hl [0, 1] rfl)
  · have hq := hq.2 hc
    refine lv_iconst (v := (1 : Int32)) hx hb dX1_withOneMore_11 (by decide) ?_
    refine lv_goto (tgt := 16) hx hb dX1_withOneMore_12 (by decide) ?_
    exact hq _ hZ ls (lv_sub hl [0, 1] rfl)
def zX1_learnSetsWith (mc : Nat) (ms : Nat) (post : (Nat → Int32) → (Nat → Nat → Int32) → Nat → Nat → Prop) (p1 : Int32) (X20 : Int32 → (Nat → Int32) → (Nat → Nat → Int32) → Nat → Nat → Nat → Nat → Prop) (X37 : Int32 → Int32 → Int32 → (Nat → Int32) → (Nat → Nat → Int32) → Nat → Nat → Nat → Nat → Prop) : Prop :=
  (∀ (x3 : Int32) (I : Nat → Int32) (R : Nat → Nat → Int32) (q : Nat) (n : Nat) (cs : Nat) (ss : Nat), ((((nI n) ≤ x3) → (post (va_up I 5 (p1 + (1 : Int32))) R q n)) ∧ ((¬ (nI n) ≤ x3) → (X37 x3 (1000 : Int32) (0 : Int32) I R q n cs ss))) → X20 x3 I R q n cs ss) ∧
  (∀ (x3 : Int32) (x4 : Int32) (x5 : Int32) (I : Nat → Int32) (R : Nat → Nat → Int32) (q : Nat) (n : Nat) (cs : Nat) (ss : Nat), (((p1 < x5) → (vp_in x3 n ∧ (X20 (x3 + (1 : Int32)) I (va_up R 4 (upd (R 4) x3.toNatClampNeg x4)) q n cs ss))) ∧ ((¬ p1 < x5) → (((((x3 >>> (x5 &&& 31)) &&& (1 : Int32)) = 0) → (X37 x3 x4 (x5 + (1 : Int32)) I R q n cs ss)) ∧ ((¬ ((x3 >>> (x5 &&& 31)) &&& (1 : Int32)) = 0) → (vp_in (x3 - ((1 : Int32) <<< (x5 &&& 31))) n ∧ (vp_in x5 14 ∧ (∃ Pc_6 : Int32 → Prop, qX1_withOneMore Pc_6 (R 4 (x3 - ((1 : Int32) <<< (x5 &&& 31))).toNatClampNeg) (R 0 x5.toNatClampNeg) ∧ (∀ (rc_6 : Int32), Pc_6 rc_6 → (∀ v_7 : Int32, v_7 = (if rc_6 < x4 then rc_6 else x4) → (X37 x3 v_7 (x5 + (1 : Int32)) I R q n cs ss)))))))))) → X37 x3 x4 x5 I R q n cs ss)
def qX1_learnSetsWith_20 (mc : Nat) (ms : Nat) (post : (Nat → Int32) → (Nat → Nat → Int32) → Nat → Nat → Prop) (p1 : Int32) (x3 : Int32) (I : Nat → Int32) (R : Nat → Nat → Int32) (q : Nat) (n : Nat) (cs : Nat) (ss : Nat) : Prop := ∀ (X20 : Int32 → (Nat → Int32) → (Nat → Nat → Int32) → Nat → Nat → Nat → Nat → Prop) (X37 : Int32 → Int32 → Int32 → (Nat → Int32) → (Nat → Nat → Int32) → Nat → Nat → Nat → Nat → Prop), zX1_learnSetsWith mc ms post p1 X20 X37 → X20 x3 I R q n cs ss
def qX1_learnSetsWith_37 (mc : Nat) (ms : Nat) (post : (Nat → Int32) → (Nat → Nat → Int32) → Nat → Nat → Prop) (p1 : Int32) (x3 : Int32) (x4 : Int32) (x5 : Int32) (I : Nat → Int32) (R : Nat → Nat → Int32) (q : Nat) (n : Nat) (cs : Nat) (ss : Nat) : Prop := ∀ (X20 : Int32 → (Nat → Int32) → (Nat → Nat → Int32) → Nat → Nat → Nat → Nat → Prop) (X37 : Int32 → Int32 → Int32 → (Nat → Int32) → (Nat → Nat → Int32) → Nat → Nat → Nat → Nat → Prop), zX1_learnSetsWith mc ms post p1 X20 X37 → X37 x3 x4 x5 I R q n cs ss
theorem kX1_learnSetsWith_20 {mc : Nat} {ms : Nat} {post : (Nat → Int32) → (Nat → Nat → Int32) → Nat → Nat → Prop} {p1 : Int32} {x3 : Int32} {I : Nat → Int32} {R : Nat → Nat → Int32} {q : Nat} {n : Nat} {cs : Nat} {ss : Nat} (h : (((nI n) ≤ x3) → (post (va_up I 5 (p1 + (1 : Int32))) R q n)) ∧ ((¬ (nI n) ≤ x3) → (qX1_learnSetsWith_37 mc ms post p1 x3 (1000 : Int32) (0 : Int32) I R q n cs ss))) : qX1_learnSetsWith_20 mc ms post p1 x3 I R q n cs ss := by
  intro Z20 Z37 hcl
  refine hcl.1 x3 I R q n cs ss ?_
  refine ⟨fun c => ?_, fun c => ?_⟩
  · have h := h.1 c
    exact h
  · have h := h.2 c
    exact h _ _ hcl
theorem kX1_learnSetsWith_37 {mc : Nat} {ms : Nat} {post : (Nat → Int32) → (Nat → Nat → Int32) → Nat → Nat → Prop} {p1 : Int32} {x3 : Int32} {x4 : Int32} {x5 : Int32} {I : Nat → Int32} {R : Nat → Nat → Int32} {q : Nat} {n : Nat} {cs : Nat} {ss : Nat} (h : ((p1 < x5) → (vp_in x3 n ∧ (qX1_learnSetsWith_20 mc ms post p1 (x3 + (1 : Int32)) I (va_up R 4 (upd (R 4) x3.toNatClampNeg x4)) q n cs ss))) ∧ ((¬ p1 < x5) → (((((x3 >>> (x5 &&& 31)) &&& (1 : Int32)) = 0) → (qX1_learnSetsWith_37 mc ms post p1 x3 x4 (x5 + (1 : Int32)) I R q n cs ss)) ∧ ((¬ ((x3 >>> (x5 &&& 31)) &&& (1 : Int32)) = 0) → (vp_in (x3 - ((1 : Int32) <<< (x5 &&& 31))) n ∧ (vp_in x5 14 ∧ (∃ Pc_6 : Int32 → Prop, qX1_withOneMore Pc_6 (R 4 (x3 - ((1 : Int32) <<< (x5 &&& 31))).toNatClampNeg) (R 0 x5.toNatClampNeg) ∧ (∀ (rc_6 : Int32), Pc_6 rc_6 → (∀ v_7 : Int32, v_7 = (if rc_6 < x4 then rc_6 else x4) → (qX1_learnSetsWith_37 mc ms post p1 x3 v_7 (x5 + (1 : Int32)) I R q n cs ss)))))))))) : qX1_learnSetsWith_37 mc ms post p1 x3 x4 x5 I R q n cs ss := by
  intro Z20 Z37 hcl
  refine hcl.2 x3 x4 x5 I R q n cs ss ?_
  refine ⟨fun c => ?_, fun c => ?_⟩
  · have h := h.1 c
    refine ⟨h.1, ?_⟩
    have h := h.2
    exact h _ _ hcl
  · have h := h.2 c
    refine ⟨fun c => ?_, fun c => ?_⟩
    · have h := h.1 c
      exact h _ _ hcl
    · have h := h.2 c
      refine ⟨h.1, ?_⟩
      have h := h.2
      refine ⟨h.1, ?_⟩
      have h := h.2
      obtain ⟨P, h1, h2⟩ := h
      refine ⟨P, h1, fun b0 hp => ?_⟩
      have h := h2 b0 hp
      intro x e
      have h := h x e
      exact h _ _ hcl
def qX1_learnSetsWith (mc : Nat) (ms : Nat) (post : (Nat → Int32) → (Nat → Nat → Int32) → Nat → Nat → Prop) (p1 : Int32) (I : Nat → Int32) (R : Nat → Nat → Int32) (q : Nat) (n : Nat) : Prop := ∀ x2_1 : Int32, x2_1 = (1 : Int32) <<< (p1 &&& 31) → (∃ Lq_2 : Nat, x2_1 * (2 : Int32) = nI Lq_2 ∧ (n < Lq_2 ∧ Lq_2 ≤ 1000000) ∧ (0 + 1 ≤ mc ∧ 0 + Lq_2 ≤ ms) ∧ (∀ aq_2 : Nat, qX1_learnSetsWith_20 mc ms post p1 x2_1 I (va_up R 4 (va_cpy (R 4) (fun _ => 0) 0 0 n)) aq_2 Lq_2 (0 + 1) (0 + Lq_2)))
theorem mX1_learnSetsWith_f18 : Cond.fieldLink RX1 18 "YearBook$Pages" "packed" "[I" ∈ wsX1_learnSetsWith := by decide +kernel
theorem nX1_learnSetsWith_X1 : ∀ w ∈ u_ws RX1 TX1 10, w ∈ wsX1_learnSetsWith := by decide +kernel
theorem mX1_learnSetsWith_f28 : Cond.fieldLink RX1 28 "YearBook$Pages" "learnt" "I" ∈ wsX1_learnSetsWith := by decide +kernel
theorem mX1_learnSetsWith_f9 : Cond.fieldLink RX1 9 "YearBook$Pages" "sizes" "[I" ∈ wsX1_learnSetsWith := by decide +kernel
theorem mX1_learnSetsWith_m45 : Cond.methodLink RX1 45 Lib.Math.min.name ∈ wsX1_learnSetsWith := by decide +kernel
theorem mX1_learnSetsWith_s45 : Cond.static Lib.Math.min.name ∈ wsX1_learnSetsWith := by decide +kernel
theorem mX1_learnSetsWith_iMath : Cond.initialized "java/lang/Math" ∈ wsX1_learnSetsWith := by decide +kernel
theorem mX1_learnSetsWith_k45 : Cond.code Lib.Math.min.name Lib.Math.min.code 2 (some .int) ∈ wsX1_learnSetsWith := by decide +kernel
set_option maxHeartbeats 4000000 in
set_option maxRecDepth 100000 in
theorem tX1_learnSetsWith (l : Launch) (dC : Nat → ClassId) (dI : Nat → Nat → Nat) (cI : ClassId) (h : Nat) (ad : Nat → Nat)  (sz : Nat) (mc : Nat) (ms : Nat) (post : (Nat → Int32) → (Nat → Nat → Int32) → Nat → Nat → Prop) (p1 : Int32) (I : Nat → Int32) (R : Nat → Nat → Int32) (q : Nat) (n : Nat) (hq : qX1_learnSetsWith mc ms post p1 I R q n) : Met l yX1_learnSetsWith wsX1_learnSetsWith ({ frames := 2, cells := mc, slots := ms, locals := 82 } : Room) (va_Pc [.ref h, .int p1] (wPre (dC, dI) vwCl [(cI, .int)] (wd1 cI h ad I R q n) sz)) (va_Qv (fun (u : (Nat → Int32) × (Nat → Nat → Int32) × (Nat) × (Nat)) => post u.1 u.2.1 u.2.2.1 u.2.2.2) (wAt (dC, dI) vwCl [(cI, .int)] (va_A (wd1 cI h ad I R q n) sz) (fun u : (Nat → Int32) × (Nat → Nat → Int32) × (Nat) × (Nat) => wd1 cI h ad u.1 u.2.1 u.2.2.1 u.2.2.2)) (va_A (wd1 cI h ad I R q n) sz)) mc ms (va_A (wd1 cI h ad I R q n) sz) := by
  unfold qX1_learnSetsWith at hq
  refine Met.ofW (cc := cX1_learnSetsWith) (maxL := 6) (ret := none) (by decide) rfl ?_
  intro p e s m args below meth c s₁ B hml hv
  obtain ⟨rfl, hsz, hP, hK, hD0⟩ := hv
  have hx := B.exec
  have hb := B.bytes
  have hr := B.returns
  have hts := atoms_spec (ws := wsX1_learnSetsWith) B.pre
  have hown : s.vm.findClass RX1 = some m.cls := findClass_of_methodNamed B.named
  have hlocks := B.notSynchronized
  subst hsz
  have hD := hD0.self (sz := s.heap.size)
  generalize hAe : va_A (wd1 cI h ad I R q n) s.heap.size = A at hD ⊢
  have hA : ∀ q : Nat, s.heap.size ≤ q → A q := fun q h => by rw [← hAe]; exact Or.inr h
  have hS : va_S A s.heap s.heap [] := va_S.rf
  have hZ : zX1_learnSetsWith mc ms post p1
      (fun (x3 : Int32) (I : Nat → Int32) (R : Nat → Nat → Int32) (q : Nat) (n : Nat) (cs : Nat) (ss : Nat) => ∀ (H : Heap) (locs : List Loc) (ls : Array Slot), cs ≤ mc → ss ≤ ms → va_P (dC, dI) vwCl (wd1 cI h ad I R q n) H → va_D A (wd1 cI h ad I R q n) → va_S A s.heap H locs → lv_has ls 6 [(0, .ref h), (1, .int p1), (3, .int x3)] → W p l e (headSpec wsX1_learnSetsWith ({ frames := 2, cells := mc, slots := ms, locals := 82 } : Room)).room s m ([.ref h, .int p1] : List Value).toArray below meth c H locs cs ss (MQ below (va_Qv (fun (u : (Nat → Int32) × (Nat → Nat → Int32) × (Nat) × (Nat)) => post u.1 u.2.1 u.2.2.1 u.2.2.2) (wAt (dC, dI) vwCl [(cI, .int)] A (fun u : (Nat → Int32) × (Nat → Nat → Int32) × (Nat) × (Nat) => wd1 cI h ad u.1 u.2.1 u.2.2.1 u.2.2.2)) A) ([.ref h, .int p1] : List Value).toArray s mc ms A) (F0 m 20 ls []))
      (fun (x3 : Int32) (x4 : Int32) (x5 : Int32) (I : Nat → Int32) (R : Nat → Nat → Int32) (q : Nat) (n : Nat) (cs : Nat) (ss : Nat) => ∀ (H : Heap) (locs : List Loc) (ls : Array Slot), cs ≤ mc → ss ≤ ms → va_P (dC, dI) vwCl (wd1 cI h ad I R q n) H → va_D A (wd1 cI h ad I R q n) → va_S A s.heap H locs → lv_has ls 6 [(0, .ref h), (1, .int p1), (3, .int x3), (4, .int x4), (5, .int x5)] → W p l e (headSpec wsX1_learnSetsWith ({ frames := 2, cells := mc, slots := ms, locals := 82 } : Room)).room s m ([.ref h, .int p1] : List Value).toArray below meth c H locs cs ss (MQ below (va_Qv (fun (u : (Nat → Int32) × (Nat → Nat → Int32) × (Nat) × (Nat)) => post u.1 u.2.1 u.2.2.1 u.2.2.2) (wAt (dC, dI) vwCl [(cI, .int)] A (fun u : (Nat → Int32) × (Nat → Nat → Int32) × (Nat) × (Nat) => wd1 cI h ad u.1 u.2.1 u.2.2.1 u.2.2.2)) A) ([.ref h, .int p1] : List Value).toArray s mc ms A) (F0 m 37 ls [])) := by
    refine ⟨?_, ?_⟩
    · intro x3 I R q n cs ss hq H locs ls hcm hsm hP hD hS hl
      refine lv_iload_n hx hb dX1_learnSetsWith_20 rfl (lv_at hl 2 rfl) ?_
      refine lv_aload_n hx hb dX1_learnSetsWith_21 rfl (lv_at hl 0 rfl) ?_
      refine va_get (D := (dC, dI)) (ci := 1) (v := .ref q) (C := RX1) (T := TX1) (N := 10) hx hb hts nX1_learnSetsWith_X1 hown hK hP 0 rfl rfl 4 (by decide) (hts _ mX1_learnSetsWith_f18) (fun _ h9 => h9) rfl dX1_learnSetsWith_22 ?_
      refine va_alen (v := nI n) hx hb hK hP 3 0 rfl rfl rfl dX1_learnSetsWith_25 ?_
      refine lv_icmp_ge (tgt := 100) hx hb dX1_learnSetsWith_26 (by decide) (fun hc => ?_) (fun hc => ?_)
      · have hq := hq.1 hc
        refine lv_aload_n hx hb dX1_learnSetsWith_100 rfl (lv_at hl 0 rfl) ?_
        refine lv_iload_n hx hb dX1_learnSetsWith_101 rfl (lv_at hl 1 rfl) ?_
        refine lv_iconst (v := (1 : Int32)) hx hb dX1_learnSetsWith_102 (by decide) ?_
        refine lv_iadd hx hb dX1_learnSetsWith_103 ?_
        refine va_put (D := (dC, dI)) (ci := 1) (v := .int (p1 + (1 : Int32))) (ty := .int) (C := RX1) (T := TX1) (N := 10) hx hb hts nX1_learnSetsWith_X1 tyX1 tyX1_ok nmX1 hown hK hP hD hS 0 rfl rfl 5 (by decide) (hts _ mX1_learnSetsWith_f28) (fun _ h9 => h9) rfl (by decide +kernel) rfl rfl (Nat.le_of_ble_eq_true rfl) dX1_learnSetsWith_104 (fun H locs hP hD hS => ?_)
        rw [wd1_I5] at hP hD
        refine W.widen (k := mc) (n := ms) hcm hsm ?_
        exact w_vret (post := fun (u : (Nat → Int32) × (Nat → Nat → Int32) × (Nat) × (Nat)) => post u.1 u.2.1 u.2.2.1 u.2.2.2) (wf := fun u : (Nat → Int32) × (Nat → Nat → Int32) × (Nat) × (Nat) => wd1 cI h ad u.1 u.2.1 u.2.2.1 u.2.2.2) (u := (va_up I 5 (p1 + (1 : Int32)), R, q, n)) hx hb hr hK hP hD hS hq dX1_learnSetsWith_107 hlocks
      · have hq := hq.2 hc
        refine lv_sipush (v := (1000 : Int32)) hx hb dX1_learnSetsWith_29 (si_1000) ?_
        refine lv_istore (lv' := [(4, .int (1000 : Int32)), (0, .ref h), (1, .int p1), (3, .int x3)]) hx hb dX1_learnSetsWith_32 hl (by decide) rfl (fun ls hl => ?_)
        refine lv_iconst (v := (0 : Int32)) hx hb dX1_learnSetsWith_34 (by decide) ?_
        refine lv_istore (lv' := [(5, .int (0 : Int32)), (4, .int (1000 : Int32)), (0, .ref h), (1, .int p1), (3, .int x3)]) hx hb dX1_learnSetsWith_35 hl (by decide) rfl (fun ls hl => ?_)
        exact hq _ _ ls hcm hsm hP hD hS (lv_sub hl [2, 3, 4, 1, 0] rfl)
    · intro x3 x4 x5 I R q n cs ss hq H locs ls hcm hsm hP hD hS hl
      refine lv_iload hx hb dX1_learnSetsWith_37 (lv_at hl 4 rfl) ?_
      refine lv_iload_n hx hb dX1_learnSetsWith_39 rfl (lv_at hl 1 rfl) ?_
      refine lv_icmp_gt (tgt := 86) hx hb dX1_learnSetsWith_40 (by decide) (fun hc => ?_) (fun hc => ?_)
      · have hq := hq.1 hc
        refine lv_aload_n hx hb dX1_learnSetsWith_86 rfl (lv_at hl 0 rfl) ?_
        refine va_get (D := (dC, dI)) (ci := 1) (v := .ref q) (C := RX1) (T := TX1) (N := 10) hx hb hts nX1_learnSetsWith_X1 hown hK hP 0 rfl rfl 4 (by decide) (hts _ mX1_learnSetsWith_f18) (fun _ h9 => h9) rfl dX1_learnSetsWith_87 ?_
        refine lv_iload_n hx hb dX1_learnSetsWith_90 rfl (lv_at hl 2 rfl) ?_
        refine lv_iload hx hb dX1_learnSetsWith_91 (lv_at hl 3 rfl) ?_
        obtain ⟨hi_3, hq⟩ := hq
        refine va_iast (f := R 4) hx hb hK hP hD hS 3 0 rfl rfl hi_3 dX1_learnSetsWith_93 (fun H locs hP hD hS => ?_)
        rw [wd1_R4] at hP hD
        refine lv_iinc (v := x3 + (1 : Int32)) (lv' := [(3, .int (x3 + (1 : Int32))), (0, .ref h), (1, .int p1), (4, .int x4), (5, .int x5)]) hx hb dX1_learnSetsWith_94 hl (k := 2) rfl rfl (by decide) rfl (fun ls hl => ?_)
        refine lv_goto (tgt := 20) hx hb dX1_learnSetsWith_97 (by decide) ?_
        exact hq _ _ ls hcm hsm hP hD hS (lv_sub hl [1, 2, 0] rfl)
      · have hq := hq.2 hc
        refine lv_iload_n hx hb dX1_learnSetsWith_43 rfl (lv_at hl 2 rfl) ?_
        refine lv_iload hx hb dX1_learnSetsWith_44 (lv_at hl 4 rfl) ?_
        refine lv_ishr hx hb dX1_learnSetsWith_46 ?_
        refine lv_iconst (v := (1 : Int32)) hx hb dX1_learnSetsWith_47 (by decide) ?_
        refine lv_iand hx hb dX1_learnSetsWith_48 ?_
        refine lv_if_eq (tgt := 80) hx hb dX1_learnSetsWith_49 (by decide) (fun hc => ?_) (fun hc => ?_)
        · have hq := hq.1 hc
          refine lv_iinc (v := x5 + (1 : Int32)) (lv' := [(5, .int (x5 + (1 : Int32))), (0, .ref h), (1, .int p1), (3, .int x3), (4, .int x4)]) hx hb dX1_learnSetsWith_80 hl (k := 4) rfl rfl (by decide) rfl (fun ls hl => ?_)
          refine lv_goto (tgt := 37) hx hb dX1_learnSetsWith_83 (by decide) ?_
          exact hq _ _ ls hcm hsm hP hD hS (lv_sub hl [1, 2, 3, 4, 0] rfl)
        · have hq := hq.2 hc
          refine lv_iload hx hb dX1_learnSetsWith_52 (lv_at hl 3 rfl) ?_
          refine lv_aload_n hx hb dX1_learnSetsWith_54 rfl (lv_at hl 0 rfl) ?_
          refine va_get (D := (dC, dI)) (ci := 1) (v := .ref q) (C := RX1) (T := TX1) (N := 10) hx hb hts nX1_learnSetsWith_X1 hown hK hP 0 rfl rfl 4 (by decide) (hts _ mX1_learnSetsWith_f18) (fun _ h9 => h9) rfl dX1_learnSetsWith_55 ?_
          refine lv_iload_n hx hb dX1_learnSetsWith_58 rfl (lv_at hl 2 rfl) ?_
          refine lv_iconst (v := (1 : Int32)) hx hb dX1_learnSetsWith_59 (by decide) ?_
          refine lv_iload hx hb dX1_learnSetsWith_60 (lv_at hl 4 rfl) ?_
          refine lv_ishl hx hb dX1_learnSetsWith_62 ?_
          refine lv_isub hx hb dX1_learnSetsWith_63 ?_
          obtain ⟨hi_4, hq⟩ := hq
          refine va_iald (f := R 4) hx hb hK hP 3 0 rfl rfl hi_4 dX1_learnSetsWith_64 ?_
          refine lv_aload_n hx hb dX1_learnSetsWith_65 rfl (lv_at hl 0 rfl) ?_
          refine va_get (D := (dC, dI)) (ci := 1) (v := .ref (ad 0)) (C := RX1) (T := TX1) (N := 10) hx hb hts nX1_learnSetsWith_X1 hown hK hP 0 rfl rfl 0 (by decide) (hts _ mX1_learnSetsWith_f9) (fun _ h9 => h9) rfl dX1_learnSetsWith_66 ?_
          refine lv_iload hx hb dX1_learnSetsWith_69 (lv_at hl 4 rfl) ?_
          obtain ⟨hi_5, hq⟩ := hq
          refine va_iald (f := R 0) hx hb hK hP 1 0 rfl rfl hi_5 dX1_learnSetsWith_71 ?_
          obtain ⟨Pc_6, hc, hq⟩ := hq
          refine vp_callSi (W.runS (As := [.int (R 4 (x3 - ((1 : Int32) <<< (x5 &&& 31))).toNatClampNeg), .int (R 0 x5.toNatClampNeg)]) (rest := [.int x4]) ⟨hx, hb, hml, hown, hts⟩ (tX1_withOneMore l Pc_6 (R 4 (x3 - ((1 : Int32) <<< (x5 &&& 31))).toNatClampNeg) (R 0 x5.toNatClampNeg) hc) (va_cwS 2 hts gX1_learnSetsWith_X1_withOneMore rfl rfl rfl (by decide +kernel) ⟨Nat.le_of_ble_eq_true rfl, Nat.le_of_ble_eq_true rfl⟩) preEq rfl rfl hl.1 rfl (lv_room (Nat.le_of_ble_eq_true rfl)) dX1_learnSetsWith_72 ⟨hcm, hsm⟩) (fun rc_6 hp => ?_)
          have hq := hq rc_6 hp
          refine va_mmin hx hb (hml.trans hl.1.symm) hown (hts _ mX1_learnSetsWith_m45) (hts _ mX1_learnSetsWith_s45) (hts _ mX1_learnSetsWith_iMath) (hts _ mX1_learnSetsWith_k45) (Nat.le_of_ble_eq_true rfl) (Nat.le_of_ble_eq_true rfl) hcm hsm dX1_learnSetsWith_75 ?_
          refine lv_topi (fun v_7 ev_7 => ?_)
          have hq := hq v_7 ev_7
          refine lv_istore (lv' := [(4, .int v_7), (0, .ref h), (1, .int p1), (3, .int x3), (5, .int x5)]) hx hb dX1_learnSetsWith_78 hl (by decide) rfl (fun ls hl => ?_)
          refine lv_iinc (v := x5 + (1 : Int32)) (lv' := [(5, .int (x5 + (1 : Int32))), (4, .int v_7), (0, .ref h), (1, .int p1), (3, .int x3)]) hx hb dX1_learnSetsWith_80 hl (k := 4) rfl rfl (by decide) rfl (fun ls hl => ?_)
          refine lv_goto (tgt := 37) hx hb dX1_learnSetsWith_83 (by decide) ?_
          exact hq _ _ ls hcm hsm hP hD hS (lv_sub hl [2, 3, 4, 1, 0] rfl)
  have hl := lv_entry ([.ref h, .int p1]) (n := 6) (Nat.le_of_ble_eq_true rfl)
  rw [lg_entry_eq]
  generalize (lg_sl ([.ref h, .int p1]) ++ List.replicate (6 - (lg_sl ([.ref h, .int p1])).length) Slot.unset).toArray = ls at hl ⊢
  have hl : lv_has ls 6 [(0, .ref h), (1, .int p1)] := hl
  have hcm : 0 ≤ mc := Nat.zero_le _
  have hsm : 0 ≤ ms := Nat.zero_le _
  refine lv_iconst (v := (1 : Int32)) hx hb dX1_learnSetsWith_0 (by decide) ?_
  refine lv_iload_n hx hb dX1_learnSetsWith_1 rfl (lv_at hl 1 rfl) ?_
  refine lv_ishl hx hb dX1_learnSetsWith_2 ?_
  refine lv_topi (fun x2_1 ex2_1 => ?_)
  have hq := hq x2_1 ex2_1
  refine lv_istore_n (lv' := [(2, .int x2_1), (0, .ref h), (1, .int p1)]) hx hb dX1_learnSetsWith_3 rfl hl (by decide) rfl (fun ls hl => ?_)
  refine lv_aload_n hx hb dX1_learnSetsWith_4 rfl (lv_at hl 1 rfl) ?_
  refine lv_aload_n hx hb dX1_learnSetsWith_5 rfl (lv_at hl 1 rfl) ?_
  refine va_get (D := (dC, dI)) (ci := 1) (v := .ref q) (C := RX1) (T := TX1) (N := 10) hx hb hts nX1_learnSetsWith_X1 hown hK hP 0 rfl rfl 4 (by decide) (hts _ mX1_learnSetsWith_f18) (fun _ h9 => h9) rfl dX1_learnSetsWith_6 ?_
  refine lv_iload_n hx hb dX1_learnSetsWith_9 rfl (lv_at hl 0 rfl) ?_
  refine lv_iconst (v := (2 : Int32)) hx hb dX1_learnSetsWith_10 (by decide) ?_
  refine lv_imul hx hb dX1_learnSetsWith_11 ?_
  obtain ⟨Lq_2, hq_2, ⟨hn9, hl9⟩, ⟨hcm, hsm⟩, hq⟩ := hq
  refine lv_topi (fun v9 ev9 => ?_)
  have ev9 := ev9.trans hq_2
  subst ev9
  refine x_callr (w1 := [(h, .inr (1, [.ref (ad 0), .int (I 1), .ref (ad 2), .int (I 3), .ref q, .int (I 5), .int (I 6), .int (I 7), .int (I 8), .int (I 9)])), ((ad 0), .inl (cI, 14, .inl (R 0))), ((ad 2), .inl (cI, 14, .inl (R 2)))]) (ws := [(q, .inl (cI, n, .inl (R 4)))]) (w2 := []) (wf := fun (_ : Unit) ra => [(q, .inl (cI, n, .inl (R 4))), (ra, .inl (cI, Lq_2, .inl (va_cpy (R 4) (fun _ => 0) 0 0 n)))]) (va_runS (As := [.ref q, .int (nI Lq_2)]) (rest := [.ref h]) ⟨hx, hb, hml, hown, hts⟩ (tJ7_copyOf l dC dI cI q n Lq_2 (R 4) _ hn9 hl9) (va_cwS 2 hts gX1_learnSetsWith_J7_copyOf_59c91 rfl rfl rfl (by decide +kernel) ⟨Nat.le_of_ble_eq_true rfl, Nat.le_of_ble_eq_true rfl⟩) (wPreS hK (vP_l (vP_r (a := [(h, .inr (1, [.ref (ad 0), .int (I 1), .ref (ad 2), .int (I 3), .ref q, .int (I 5), .int (I 6), .int (I 7), .int (I 8), .int (I 9)])), ((ad 0), .inl (cI, 14, .inl (R 0))), ((ad 2), .inl (cI, 14, .inl (R 2)))]) hP)) (vD_l (vD_r (a := [(h, .inr (1, [.ref (ad 0), .int (I 1), .ref (ad 2), .int (I 3), .ref q, .int (I 5), .int (I 6), .int (I 7), .int (I 8), .int (I 9)])), ((ad 0), .inl (cI, 14, .inl (R 0))), ((ad 2), .inl (cI, 14, .inl (R 2)))]) hD))) rfl rfl hl.1 rfl (lv_room (Nat.le_of_ble_eq_true rfl)) dX1_learnSetsWith_12 ⟨hcm, hsm⟩) hP hD hS hA (fun _ aq_2 H locs _ hP hD hS => ?_)
  have hq := hq aq_2
  have hP : va_P (dC, dI) vwCl [(h, .inr (1, [.ref (ad 0), .int (I 1), .ref (ad 2), .int (I 3), .ref q, .int (I 5), .int (I 6), .int (I 7), .int (I 8), .int (I 9)])), ((ad 0), .inl (cI, 14, .inl (R 0))), ((ad 2), .inl (cI, 14, .inl (R 2))), (q, .inl (cI, n, .inl (R 4))), (aq_2, .inl (cI, Lq_2, .inl (va_cpy (R 4) (fun _ => 0) 0 0 n)))] H := hP
  have hD : va_D A [(h, .inr (1, [.ref (ad 0), .int (I 1), .ref (ad 2), .int (I 3), .ref q, .int (I 5), .int (I 6), .int (I 7), .int (I 8), .int (I 9)])), ((ad 0), .inl (cI, 14, .inl (R 0))), ((ad 2), .inl (cI, 14, .inl (R 2))), (q, .inl (cI, n, .inl (R 4))), (aq_2, .inl (cI, Lq_2, .inl (va_cpy (R 4) (fun _ => 0) 0 0 n)))] := hD
  refine va_put (D := (dC, dI)) (ci := 1) (v := .ref aq_2) (ty := .array .int) (C := RX1) (T := TX1) (N := 10) hx hb hts nX1_learnSetsWith_X1 tyX1 tyX1_ok nmX1 hown hK hP hD hS 0 rfl rfl 4 (by decide) (hts _ mX1_learnSetsWith_f18) (fun _ h9 => h9) rfl (by decide +kernel) rfl rfl (Nat.le_of_ble_eq_true rfl) dX1_learnSetsWith_15 (fun H locs hP hD hS => ?_)
  have hP : va_P (dC, dI) vwCl (wd1 cI h ad I (va_up R 4 (va_cpy (R 4) (fun _ => 0) 0 0 n)) aq_2 Lq_2) H := hP.sub [0, 1, 2, 4] rfl
  have hD : va_D A (wd1 cI h ad I (va_up R 4 (va_cpy (R 4) (fun _ => 0) 0 0 n)) aq_2 Lq_2) := hD.sub [0, 1, 2, 4] (by decide) rfl
  refine lv_iload_n hx hb dX1_learnSetsWith_18 rfl (lv_at hl 0 rfl) ?_
  refine lv_istore_n (lv' := [(3, .int x2_1), (2, .int x2_1), (0, .ref h), (1, .int p1)]) hx hb dX1_learnSetsWith_19 rfl hl (by decide) rfl (fun ls hl => ?_)
  exact hq _ _ hZ _ _ ls hcm hsm hP hD hS (lv_sub hl [2, 3, 0] rfl)
def zX1_pagesFor (mc : Nat) (ms : Nat) (post : Int32 → (Nat → Int32) → (Nat → Nat → Int32) → Nat → Nat → Prop) (p1 : Int32) (X5 : Int32 → (Nat → Int32) → (Nat → Nat → Int32) → Nat → Nat → Nat → Nat → Prop) (X30 : (Nat → Int32) → (Nat → Nat → Int32) → Nat → Nat → Nat → Nat → Prop) : Prop :=
  (∀ (x2 : Int32) (I : Nat → Int32) (R : Nat → Nat → Int32) (q : Nat) (n : Nat) (cs : Nat) (ss : Nat), ((((I 1) ≤ x2) → (X30 I R q n cs ss)) ∧ ((¬ (I 1) ≤ x2) → ((((p1 >>> (x2 &&& 31)) ≤ 0) → (X30 I R q n cs ss)) ∧ ((¬ (p1 >>> (x2 &&& 31)) ≤ 0) → (∃ (mc_2 kc_2 : Nat), (cs + mc_2 ≤ mc ∧ ss + kc_2 ≤ ms) ∧ (∃ Pc_2 : (Nat → Int32) → (Nat → Nat → Int32) → Nat → Nat → Prop, qX1_learnSetsWith mc_2 kc_2 Pc_2 x2 I R q n ∧ (∀ (Ic_2 : Nat → Int32) (Rc_2 : Nat → Nat → Int32) (qc_2 : Nat) (nc_2 : Nat), Pc_2 Ic_2 Rc_2 qc_2 nc_2 → (X5 (x2 + (1 : Int32)) Ic_2 Rc_2 qc_2 nc_2 (cs + mc_2) (ss + kc_2))))))))) → X5 x2 I R q n cs ss) ∧
  (∀ (I : Nat → Int32) (R : Nat → Nat → Int32) (q : Nat) (n : Nat) (cs : Nat) (ss : Nat), (((p1 < 0) → (post (-1 : Int32) I R q n)) ∧ ((¬ p1 < 0) → ((((nI n) ≤ p1) → (post (-1 : Int32) I R q n)) ∧ ((¬ (nI n) ≤ p1) → (vp_in p1 n ∧ (post ((R 4 p1.toNatClampNeg) >>> ((4 : Int32) &&& 31)) I R q n)))))) → X30 I R q n cs ss)
def qX1_pagesFor_5 (mc : Nat) (ms : Nat) (post : Int32 → (Nat → Int32) → (Nat → Nat → Int32) → Nat → Nat → Prop) (p1 : Int32) (x2 : Int32) (I : Nat → Int32) (R : Nat → Nat → Int32) (q : Nat) (n : Nat) (cs : Nat) (ss : Nat) : Prop := ∀ (X5 : Int32 → (Nat → Int32) → (Nat → Nat → Int32) → Nat → Nat → Nat → Nat → Prop) (X30 : (Nat → Int32) → (Nat → Nat → Int32) → Nat → Nat → Nat → Nat → Prop), zX1_pagesFor mc ms post p1 X5 X30 → X5 x2 I R q n cs ss
def qX1_pagesFor_30 (mc : Nat) (ms : Nat) (post : Int32 → (Nat → Int32) → (Nat → Nat → Int32) → Nat → Nat → Prop) (p1 : Int32) (I : Nat → Int32) (R : Nat → Nat → Int32) (q : Nat) (n : Nat) (cs : Nat) (ss : Nat) : Prop := ∀ (X5 : Int32 → (Nat → Int32) → (Nat → Nat → Int32) → Nat → Nat → Nat → Nat → Prop) (X30 : (Nat → Int32) → (Nat → Nat → Int32) → Nat → Nat → Nat → Nat → Prop), zX1_pagesFor mc ms post p1 X5 X30 → X30 I R q n cs ss
theorem kX1_pagesFor_5 {mc : Nat} {ms : Nat} {post : Int32 → (Nat → Int32) → (Nat → Nat → Int32) → Nat → Nat → Prop} {p1 : Int32} {x2 : Int32} {I : Nat → Int32} {R : Nat → Nat → Int32} {q : Nat} {n : Nat} {cs : Nat} {ss : Nat} (h : (((I 1) ≤ x2) → (qX1_pagesFor_30 mc ms post p1 I R q n cs ss)) ∧ ((¬ (I 1) ≤ x2) → ((((p1 >>> (x2 &&& 31)) ≤ 0) → (qX1_pagesFor_30 mc ms post p1 I R q n cs ss)) ∧ ((¬ (p1 >>> (x2 &&& 31)) ≤ 0) → (∃ (mc_2 kc_2 : Nat), (cs + mc_2 ≤ mc ∧ ss + kc_2 ≤ ms) ∧ (∃ Pc_2 : (Nat → Int32) → (Nat → Nat → Int32) → Nat → Nat → Prop, qX1_learnSetsWith mc_2 kc_2 Pc_2 x2 I R q n ∧ (∀ (Ic_2 : Nat → Int32) (Rc_2 : Nat → Nat → Int32) (qc_2 : Nat) (nc_2 : Nat), Pc_2 Ic_2 Rc_2 qc_2 nc_2 → (qX1_pagesFor_5 mc ms post p1 (x2 + (1 : Int32)) Ic_2 Rc_2 qc_2 nc_2 (cs + mc_2) (ss + kc_2))))))))) : qX1_pagesFor_5 mc ms post p1 x2 I R q n cs ss := by
  intro Z5 Z30 hcl
  refine hcl.1 x2 I R q n cs ss ?_
  refine ⟨fun c => ?_, fun c => ?_⟩
  · have h := h.1 c
    exact h _ _ hcl
  · have h := h.2 c
    refine ⟨fun c => ?_, fun c => ?_⟩
    · have h := h.1 c
      exact h _ _ hcl
    · have h := h.2 c
      obtain ⟨m1, k1, h0, P, h1, h2⟩ := h
      refine ⟨m1, k1, h0, P, h1, fun b0 b1 b2 b3 hp => ?_⟩
      have h := h2 b0 b1 b2 b3 hp
      exact h _ _ hcl
theorem kX1_pagesFor_30 {mc : Nat} {ms : Nat} {post : Int32 → (Nat → Int32) → (Nat → Nat → Int32) → Nat → Nat → Prop} {p1 : Int32} {I : Nat → Int32} {R : Nat → Nat → Int32} {q : Nat} {n : Nat} {cs : Nat} {ss : Nat} (h : ((p1 < 0) → (post (-1 : Int32) I R q n)) ∧ ((¬ p1 < 0) → ((((nI n) ≤ p1) → (post (-1 : Int32) I R q n)) ∧ ((¬ (nI n) ≤ p1) → (vp_in p1 n ∧ (post ((R 4 p1.toNatClampNeg) >>> ((4 : Int32) &&& 31)) I R q n)))))) : qX1_pagesFor_30 mc ms post p1 I R q n cs ss := by
  intro Z5 Z30 hcl
  refine hcl.2 I R q n cs ss ?_
  refine ⟨fun c => ?_, fun c => ?_⟩
  · have h := h.1 c
    exact h
  · have h := h.2 c
    refine ⟨fun c => ?_, fun c => ?_⟩
    · have h := h.1 c
      exact h
    · have h := h.2 c
      refine ⟨h.1, ?_⟩
      have h := h.2
      exact h
def qX1_pagesFor (mc : Nat) (ms : Nat) (post : Int32 → (Nat → Int32) → (Nat → Nat → Int32) → Nat → Nat → Prop) (p1 : Int32) (I : Nat → Int32) (R : Nat → Nat → Int32) (q : Nat) (n : Nat) : Prop := ∀ x2_1 : Int32, x2_1 = I 5 → (qX1_pagesFor_5 mc ms post p1 x2_1 I R q n 0 0)
theorem mX1_pagesFor_f28 : Cond.fieldLink RX1 28 "YearBook$Pages" "learnt" "I" ∈ wsX1_pagesFor := by decide +kernel
theorem nX1_pagesFor_X1 : ∀ w ∈ u_ws RX1 TX1 10, w ∈ wsX1_pagesFor := by decide +kernel
theorem mX1_pagesFor_f21 : Cond.fieldLink RX1 21 "YearBook$Pages" "pictures" "I" ∈ wsX1_pagesFor := by decide +kernel
theorem mX1_pagesFor_f18 : Cond.fieldLink RX1 18 "YearBook$Pages" "packed" "[I" ∈ wsX1_pagesFor := by decide +kernel
set_option maxHeartbeats 4000000 in
set_option maxRecDepth 100000 in
theorem tX1_pagesFor (l : Launch) (dC : Nat → ClassId) (dI : Nat → Nat → Nat) (cI : ClassId) (h : Nat) (ad : Nat → Nat)  (sz : Nat) (mc : Nat) (ms : Nat) (post : Int32 → (Nat → Int32) → (Nat → Nat → Int32) → Nat → Nat → Prop) (p1 : Int32) (I : Nat → Int32) (R : Nat → Nat → Int32) (q : Nat) (n : Nat) (hq : qX1_pagesFor mc ms post p1 I R q n) : Met l yX1_pagesFor wsX1_pagesFor ({ frames := 3, cells := mc, slots := ms, locals := 107 } : Room) (va_Pc [.ref h, .int p1] (wPre (dC, dI) vwCl [(cI, .int)] (wd1 cI h ad I R q n) sz)) (va_Qi (fun r (u : (Nat → Int32) × (Nat → Nat → Int32) × (Nat) × (Nat)) => post r u.1 u.2.1 u.2.2.1 u.2.2.2) (wAt (dC, dI) vwCl [(cI, .int)] (va_A (wd1 cI h ad I R q n) sz) (fun u : (Nat → Int32) × (Nat → Nat → Int32) × (Nat) × (Nat) => wd1 cI h ad u.1 u.2.1 u.2.2.1 u.2.2.2)) (va_A (wd1 cI h ad I R q n) sz)) mc ms (va_A (wd1 cI h ad I R q n) sz) := by
  unfold qX1_pagesFor at hq
  refine Met.ofW (cc := cX1_pagesFor) (maxL := 3) (ret := (some .int)) (by decide) rfl ?_
  intro p e s m args below meth c s₁ B hml hv
  obtain ⟨rfl, hsz, hP, hK, hD0⟩ := hv
  have hx := B.exec
  have hb := B.bytes
  have hr := B.returns
  have hts := atoms_spec (ws := wsX1_pagesFor) B.pre
  have hown : s.vm.findClass RX1 = some m.cls := findClass_of_methodNamed B.named
  have hlocks := B.notSynchronized
  subst hsz
  have hD := hD0.self (sz := s.heap.size)
  generalize hAe : va_A (wd1 cI h ad I R q n) s.heap.size = A at hD ⊢
  have hA : ∀ q : Nat, s.heap.size ≤ q → A q := fun q h => by rw [← hAe]; exact Or.inr h
  have hS : va_S A s.heap s.heap [] := va_S.rf
  have hZ : zX1_pagesFor mc ms post p1
      (fun (x2 : Int32) (I : Nat → Int32) (R : Nat → Nat → Int32) (q : Nat) (n : Nat) (cs : Nat) (ss : Nat) => ∀ (H : Heap) (locs : List Loc) (ls : Array Slot), cs ≤ mc → ss ≤ ms → va_P (dC, dI) vwCl (wd1 cI h ad I R q n) H → va_D A (wd1 cI h ad I R q n) → va_S A s.heap H locs → lv_has ls 3 [(0, .ref h), (1, .int p1), (2, .int x2)] → W p l e (headSpec wsX1_pagesFor ({ frames := 3, cells := mc, slots := ms, locals := 107 } : Room)).room s m ([.ref h, .int p1] : List Value).toArray below meth c H locs cs ss (MQ below (va_Qi (fun r (u : (Nat → Int32) × (Nat → Nat → Int32) × (Nat) × (Nat)) => post r u.1 u.2.1 u.2.2.1 u.2.2.2) (wAt (dC, dI) vwCl [(cI, .int)] A (fun u : (Nat → Int32) × (Nat → Nat → Int32) × (Nat) × (Nat) => wd1 cI h ad u.1 u.2.1 u.2.2.1 u.2.2.2)) A) ([.ref h, .int p1] : List Value).toArray s mc ms A) (F0 m 5 ls []))
      (fun (I : Nat → Int32) (R : Nat → Nat → Int32) (q : Nat) (n : Nat) (cs : Nat) (ss : Nat) => ∀ (H : Heap) (locs : List Loc) (ls : Array Slot), cs ≤ mc → ss ≤ ms → va_P (dC, dI) vwCl (wd1 cI h ad I R q n) H → va_D A (wd1 cI h ad I R q n) → va_S A s.heap H locs → lv_has ls 3 [(0, .ref h), (1, .int p1)] → W p l e (headSpec wsX1_pagesFor ({ frames := 3, cells := mc, slots := ms, locals := 107 } : Room)).room s m ([.ref h, .int p1] : List Value).toArray below meth c H locs cs ss (MQ below (va_Qi (fun r (u : (Nat → Int32) × (Nat → Nat → Int32) × (Nat) × (Nat)) => post r u.1 u.2.1 u.2.2.1 u.2.2.2) (wAt (dC, dI) vwCl [(cI, .int)] A (fun u : (Nat → Int32) × (Nat → Nat → Int32) × (Nat) × (Nat) => wd1 cI h ad u.1 u.2.1 u.2.2.1 u.2.2.2)) A) ([.ref h, .int p1] : List Value).toArray s mc ms A) (F0 m 30 ls [])) := by
    refine ⟨?_, ?_⟩
    · intro x2 I R q n cs ss hq H locs ls hcm hsm hP hD hS hl
      refine lv_iload_n hx hb dX1_pagesFor_5 rfl (lv_at hl 2 rfl) ?_
      refine lv_aload_n hx hb dX1_pagesFor_6 rfl (lv_at hl 0 rfl) ?_
      refine va_get (D := (dC, dI)) (ci := 1) (v := .int (I 1)) (C := RX1) (T := TX1) (N := 10) hx hb hts nX1_pagesFor_X1 hown hK hP 0 rfl rfl 1 (by decide) (hts _ mX1_pagesFor_f21) (fun _ h9 => h9) rfl dX1_pagesFor_7 ?_
      refine lv_icmp_ge (tgt := 30) hx hb dX1_pagesFor_10 (by decide) (fun hc => ?_) (fun hc => ?_)
      · have hq := hq.1 hc
        exact hq _ _ ls hcm hsm hP hD hS (lv_sub hl [0, 1] rfl)
      · have hq := hq.2 hc
        refine lv_iload_n hx hb dX1_pagesFor_13 rfl (lv_at hl 1 rfl) ?_
        refine lv_iload_n hx hb dX1_pagesFor_14 rfl (lv_at hl 2 rfl) ?_
        refine lv_ishr hx hb dX1_pagesFor_15 ?_
        refine lv_if_le (tgt := 30) hx hb dX1_pagesFor_16 (by decide) (fun hc => ?_) (fun hc => ?_)
        · have hq := hq.1 hc
          exact hq _ _ ls hcm hsm hP hD hS (lv_sub hl [0, 1] rfl)
        · have hq := hq.2 hc
          refine lv_aload_n hx hb dX1_pagesFor_19 rfl (lv_at hl 0 rfl) ?_
          refine lv_iload_n hx hb dX1_pagesFor_20 rfl (lv_at hl 2 rfl) ?_
          obtain ⟨mc_2, kc_2, ⟨hcm, hsm⟩, Pc_2, hc, hq⟩ := hq
          refine w_callv (wf := fun u : (Nat → Int32) × (Nat → Nat → Int32) × (Nat) × (Nat) => wd1 cI h ad u.1 u.2.1 u.2.2.1 u.2.2.2) (va_runV (As := [.int x2]) (rest := []) ⟨hx, hb, hml, hown, hts⟩ (tX1_learnSetsWith l dC dI cI h ad _ mc_2 kc_2 Pc_2 x2 I R q n hc) (cwV 1 hts gX1_pagesFor_X1_learnSetsWith rfl rfl rfl (by decide +kernel) ⟨Nat.le_of_ble_eq_true rfl, Nat.le_of_ble_eq_true rfl⟩) (wPreV hK hP hD (ci := 1) (q0 := 0) rfl rfl) rfl rfl hl.1 rfl (lv_room (Nat.le_of_ble_eq_true rfl)) dX1_pagesFor_21 ⟨hcm, hsm⟩) hD hS hA (fun u H locs hp hP hD hS => ?_)
          obtain ⟨Ic_2, Rc_2, qc_2, nc_2⟩ := u
          have hq := hq Ic_2 Rc_2 qc_2 nc_2 hp
          have hP : va_P (dC, dI) vwCl (wd1 cI h ad Ic_2 Rc_2 qc_2 nc_2) H := hP
          have hD : va_D A (wd1 cI h ad Ic_2 Rc_2 qc_2 nc_2) := hD
          refine lv_iinc (v := x2 + (1 : Int32)) (lv' := [(2, .int (x2 + (1 : Int32))), (0, .ref h), (1, .int p1)]) hx hb dX1_pagesFor_24 hl (k := 2) rfl rfl (by decide) rfl (fun ls hl => ?_)
          refine lv_goto (tgt := 5) hx hb dX1_pagesFor_27 (by decide) ?_
          exact hq _ _ ls hcm hsm hP hD hS (lv_sub hl [1, 2, 0] rfl)
    · intro I R q n cs ss hq H locs ls hcm hsm hP hD hS hl
      refine lv_iload_n hx hb dX1_pagesFor_30 rfl (lv_at hl 1 rfl) ?_
      refine lv_if_lt (tgt := 54) hx hb dX1_pagesFor_31 (by decide) (fun hc => ?_) (fun hc => ?_)
      · have hq := hq.1 hc
        refine lv_iconst (v := (-1 : Int32)) hx hb dX1_pagesFor_54 (by decide) ?_
        refine W.widen (k := mc) (n := ms) hcm hsm ?_
        exact w_iret (post := fun r (u : (Nat → Int32) × (Nat → Nat → Int32) × (Nat) × (Nat)) => post r u.1 u.2.1 u.2.2.1 u.2.2.2) (wf := fun u : (Nat → Int32) × (Nat → Nat → Int32) × (Nat) × (Nat) => wd1 cI h ad u.1 u.2.1 u.2.2.1 u.2.2.2) (u := (I, R, q, n)) hx hb hr hK hP hD hS hq dX1_pagesFor_55 hlocks
      · have hq := hq.2 hc
        refine lv_iload_n hx hb dX1_pagesFor_34 rfl (lv_at hl 1 rfl) ?_
        refine lv_aload_n hx hb dX1_pagesFor_35 rfl (lv_at hl 0 rfl) ?_
        refine va_get (D := (dC, dI)) (ci := 1) (v := .ref q) (C := RX1) (T := TX1) (N := 10) hx hb hts nX1_pagesFor_X1 hown hK hP 0 rfl rfl 4 (by decide) (hts _ mX1_pagesFor_f18) (fun _ h9 => h9) rfl dX1_pagesFor_36 ?_
        refine va_alen (v := nI n) hx hb hK hP 3 0 rfl rfl rfl dX1_pagesFor_39 ?_
        refine lv_icmp_ge (tgt := 54) hx hb dX1_pagesFor_40 (by decide) (fun hc => ?_) (fun hc => ?_)
        · have hq := hq.1 hc
          refine lv_iconst (v := (-1 : Int32)) hx hb dX1_pagesFor_54 (by decide) ?_
          refine W.widen (k := mc) (n := ms) hcm hsm ?_
          exact w_iret (post := fun r (u : (Nat → Int32) × (Nat → Nat → Int32) × (Nat) × (Nat)) => post r u.1 u.2.1 u.2.2.1 u.2.2.2) (wf := fun u : (Nat → Int32) × (Nat → Nat → Int32) × (Nat) × (Nat) => wd1 cI h ad u.1 u.2.1 u.2.2.1 u.2.2.2) (u := (I, R, q, n)) hx hb hr hK hP hD hS hq dX1_pagesFor_55 hlocks
        · have hq := hq.2 hc
          refine lv_aload_n hx hb dX1_pagesFor_43 rfl (lv_at hl 0 rfl) ?_
          refine va_get (D := (dC, dI)) (ci := 1) (v := .ref q) (C := RX1) (T := TX1) (N := 10) hx hb hts nX1_pagesFor_X1 hown hK hP 0 rfl rfl 4 (by decide) (hts _ mX1_pagesFor_f18) (fun _ h9 => h9) rfl dX1_pagesFor_44 ?_
          refine lv_iload_n hx hb dX1_pagesFor_47 rfl (lv_at hl 1 rfl) ?_
          obtain ⟨hi_3, hq⟩ := hq
          refine va_iald (f := R 4) hx hb hK hP 3 0 rfl rfl hi_3 dX1_pagesFor_48 ?_
          refine lv_iconst (v := (4 : Int32)) hx hb dX1_pagesFor_49 (by decide) ?_
          refine lv_ishr hx hb dX1_pagesFor_50 ?_
          refine lv_goto (tgt := 55) hx hb dX1_pagesFor_51 (by decide) ?_
          refine W.widen (k := mc) (n := ms) hcm hsm ?_
          exact w_iret (post := fun r (u : (Nat → Int32) × (Nat → Nat → Int32) × (Nat) × (Nat)) => post r u.1 u.2.1 u.2.2.1 u.2.2.2) (wf := fun u : (Nat → Int32) × (Nat → Nat → Int32) × (Nat) × (Nat) => wd1 cI h ad u.1 u.2.1 u.2.2.1 u.2.2.2) (u := (I, R, q, n)) hx hb hr hK hP hD hS hq dX1_pagesFor_55 hlocks
  have hl := lv_entry ([.ref h, .int p1]) (n := 3) (Nat.le_of_ble_eq_true rfl)
  rw [lg_entry_eq]
  generalize (lg_sl ([.ref h, .int p1]) ++ List.replicate (3 - (lg_sl ([.ref h, .int p1])).length) Slot.unset).toArray = ls at hl ⊢
  have hl : lv_has ls 3 [(0, .ref h), (1, .int p1)] := hl
  have hcm : 0 ≤ mc := Nat.zero_le _
  have hsm : 0 ≤ ms := Nat.zero_le _
  refine lv_aload_n hx hb dX1_pagesFor_0 rfl (lv_at hl 0 rfl) ?_
  refine va_get (D := (dC, dI)) (ci := 1) (v := .int (I 5)) (C := RX1) (T := TX1) (N := 10) hx hb hts nX1_pagesFor_X1 hown hK hP 0 rfl rfl 5 (by decide) (hts _ mX1_pagesFor_f28) (fun _ h9 => h9) rfl dX1_pagesFor_1 ?_
  refine lv_topi (fun x2_1 ex2_1 => ?_)
  have hq := hq x2_1 ex2_1
  refine lv_istore_n (lv' := [(2, .int x2_1), (0, .ref h), (1, .int p1)]) hx hb dX1_pagesFor_4 rfl hl (by decide) rfl (fun ls hl => ?_)
  exact hq _ _ hZ _ _ ls hcm hsm hP hD hS (lv_sub hl [1, 2, 0] rfl)
def zX1_pagesForA (post : Int32 → (Nat → Int32) → (Nat → Nat → Int32) → Nat → Nat → Prop) (p1 : Int32) (X5 : Int32 → (Nat → Int32) → (Nat → Nat → Int32) → Nat → Nat → Prop) (X30 : (Nat → Int32) → (Nat → Nat → Int32) → Nat → Nat → Prop) : Prop :=
  (∀ (x2 : Int32) (I : Nat → Int32) (R : Nat → Nat → Int32) (q : Nat) (n : Nat), ((((I 1) ≤ x2) → (X30 I R q n)) ∧ ((¬ (I 1) ≤ x2) → ((((p1 >>> (x2 &&& 31)) ≤ 0) → (X30 I R q n)) ∧ ((¬ (p1 >>> (x2 &&& 31)) ≤ 0) → (False))))) → X5 x2 I R q n) ∧
  (∀ (I : Nat → Int32) (R : Nat → Nat → Int32) (q : Nat) (n : Nat), (((p1 < 0) → (post (-1 : Int32) I R q n)) ∧ ((¬ p1 < 0) → ((((nI n) ≤ p1) → (post (-1 : Int32) I R q n)) ∧ ((¬ (nI n) ≤ p1) → (vp_in p1 n ∧ (post ((R 4 p1.toNatClampNeg) >>> ((4 : Int32) &&& 31)) I R q n)))))) → X30 I R q n)
def qX1_pagesForA_5 (post : Int32 → (Nat → Int32) → (Nat → Nat → Int32) → Nat → Nat → Prop) (p1 : Int32) (x2 : Int32) (I : Nat → Int32) (R : Nat → Nat → Int32) (q : Nat) (n : Nat) : Prop := ∀ (X5 : Int32 → (Nat → Int32) → (Nat → Nat → Int32) → Nat → Nat → Prop) (X30 : (Nat → Int32) → (Nat → Nat → Int32) → Nat → Nat → Prop), zX1_pagesForA post p1 X5 X30 → X5 x2 I R q n
def qX1_pagesForA_30 (post : Int32 → (Nat → Int32) → (Nat → Nat → Int32) → Nat → Nat → Prop) (p1 : Int32) (I : Nat → Int32) (R : Nat → Nat → Int32) (q : Nat) (n : Nat) : Prop := ∀ (X5 : Int32 → (Nat → Int32) → (Nat → Nat → Int32) → Nat → Nat → Prop) (X30 : (Nat → Int32) → (Nat → Nat → Int32) → Nat → Nat → Prop), zX1_pagesForA post p1 X5 X30 → X30 I R q n
theorem kX1_pagesForA_5 {post : Int32 → (Nat → Int32) → (Nat → Nat → Int32) → Nat → Nat → Prop} {p1 : Int32} {x2 : Int32} {I : Nat → Int32} {R : Nat → Nat → Int32} {q : Nat} {n : Nat} (h : (((I 1) ≤ x2) → (qX1_pagesForA_30 post p1 I R q n)) ∧ ((¬ (I 1) ≤ x2) → ((((p1 >>> (x2 &&& 31)) ≤ 0) → (qX1_pagesForA_30 post p1 I R q n)) ∧ ((¬ (p1 >>> (x2 &&& 31)) ≤ 0) → (False))))) : qX1_pagesForA_5 post p1 x2 I R q n := by
  intro Z5 Z30 hcl
  refine hcl.1 x2 I R q n ?_
  refine ⟨fun c => ?_, fun c => ?_⟩
  · have h := h.1 c
    exact h _ _ hcl
  · have h := h.2 c
    refine ⟨fun c => ?_, fun c => ?_⟩
    · have h := h.1 c
      exact h _ _ hcl
    · have h := h.2 c
      exact h
theorem kX1_pagesForA_30 {post : Int32 → (Nat → Int32) → (Nat → Nat → Int32) → Nat → Nat → Prop} {p1 : Int32} {I : Nat → Int32} {R : Nat → Nat → Int32} {q : Nat} {n : Nat} (h : ((p1 < 0) → (post (-1 : Int32) I R q n)) ∧ ((¬ p1 < 0) → ((((nI n) ≤ p1) → (post (-1 : Int32) I R q n)) ∧ ((¬ (nI n) ≤ p1) → (vp_in p1 n ∧ (post ((R 4 p1.toNatClampNeg) >>> ((4 : Int32) &&& 31)) I R q n)))))) : qX1_pagesForA_30 post p1 I R q n := by
  intro Z5 Z30 hcl
  refine hcl.2 I R q n ?_
  refine ⟨fun c => ?_, fun c => ?_⟩
  · have h := h.1 c
    exact h
  · have h := h.2 c
    refine ⟨fun c => ?_, fun c => ?_⟩
    · have h := h.1 c
      exact h
    · have h := h.2 c
      refine ⟨h.1, ?_⟩
      have h := h.2
      exact h
def qX1_pagesForA (post : Int32 → (Nat → Int32) → (Nat → Nat → Int32) → Nat → Nat → Prop) (p1 : Int32) (I : Nat → Int32) (R : Nat → Nat → Int32) (q : Nat) (n : Nat) : Prop := ∀ x2_1 : Int32, x2_1 = I 5 → (qX1_pagesForA_5 post p1 x2_1 I R q n)
set_option maxHeartbeats 4000000 in
set_option maxRecDepth 100000 in
theorem tX1_pagesForA (l : Launch) (dC : Nat → ClassId) (dI : Nat → Nat → Nat) (cI : ClassId) (h : Nat) (ad : Nat → Nat)  (sz : Nat) (post : Int32 → (Nat → Int32) → (Nat → Nat → Int32) → Nat → Nat → Prop) (p1 : Int32) (I : Nat → Int32) (R : Nat → Nat → Int32) (q : Nat) (n : Nat) (hq : qX1_pagesForA post p1 I R q n) : Met l yX1_pagesFor wsX1_pagesFor ({ frames := 3, cells := 0, slots := 0, locals := 107 } : Room) (va_Pc [.ref h, .int p1] (wPre (dC, dI) vwCl [(cI, .int)] (wd1 cI h ad I R q n) sz)) (va_Qi (fun r (u : (Nat → Int32) × (Nat → Nat → Int32) × (Nat) × (Nat)) => post r u.1 u.2.1 u.2.2.1 u.2.2.2) (wAt (dC, dI) vwCl [(cI, .int)] (va_A (wd1 cI h ad I R q n) sz) (fun u : (Nat → Int32) × (Nat → Nat → Int32) × (Nat) × (Nat) => wd1 cI h ad u.1 u.2.1 u.2.2.1 u.2.2.2)) (va_A (wd1 cI h ad I R q n) sz)) 0 0 (va_A (wd1 cI h ad I R q n) sz) := by
  unfold qX1_pagesForA at hq
  refine Met.ofW (cc := cX1_pagesFor) (maxL := 3) (ret := (some .int)) (by decide) rfl ?_
  intro p e s m args below meth c s₁ B hml hv
  obtain ⟨rfl, hsz, hP, hK, hD0⟩ := hv
  have hx := B.exec
  have hb := B.bytes
  have hr := B.returns
  have hts := atoms_spec (ws := wsX1_pagesFor) B.pre
  have hown : s.vm.findClass RX1 = some m.cls := findClass_of_methodNamed B.named
  have hlocks := B.notSynchronized
  subst hsz
  have hD := hD0.self (sz := s.heap.size)
  generalize hAe : va_A (wd1 cI h ad I R q n) s.heap.size = A at hD ⊢
  have hA : ∀ q : Nat, s.heap.size ≤ q → A q := fun q h => by rw [← hAe]; exact Or.inr h
  have hS : va_S A s.heap s.heap [] := va_S.rf
  have hZ : zX1_pagesForA post p1
      (fun (x2 : Int32) (I : Nat → Int32) (R : Nat → Nat → Int32) (q : Nat) (n : Nat) => ∀ (H : Heap) (locs : List Loc) (ls : Array Slot), va_P (dC, dI) vwCl (wd1 cI h ad I R q n) H → va_D A (wd1 cI h ad I R q n) → va_S A s.heap H locs → lv_has ls 3 [(0, .ref h), (1, .int p1), (2, .int x2)] → W p l e (headSpec wsX1_pagesFor ({ frames := 3, cells := 0, slots := 0, locals := 107 } : Room)).room s m ([.ref h, .int p1] : List Value).toArray below meth c H locs 0 0 (MQ below (va_Qi (fun r (u : (Nat → Int32) × (Nat → Nat → Int32) × (Nat) × (Nat)) => post r u.1 u.2.1 u.2.2.1 u.2.2.2) (wAt (dC, dI) vwCl [(cI, .int)] A (fun u : (Nat → Int32) × (Nat → Nat → Int32) × (Nat) × (Nat) => wd1 cI h ad u.1 u.2.1 u.2.2.1 u.2.2.2)) A) ([.ref h, .int p1] : List Value).toArray s 0 0 A) (F0 m 5 ls []))
      (fun (I : Nat → Int32) (R : Nat → Nat → Int32) (q : Nat) (n : Nat) => ∀ (H : Heap) (locs : List Loc) (ls : Array Slot), va_P (dC, dI) vwCl (wd1 cI h ad I R q n) H → va_D A (wd1 cI h ad I R q n) → va_S A s.heap H locs → lv_has ls 3 [(0, .ref h), (1, .int p1)] → W p l e (headSpec wsX1_pagesFor ({ frames := 3, cells := 0, slots := 0, locals := 107 } : Room)).room s m ([.ref h, .int p1] : List Value).toArray below meth c H locs 0 0 (MQ below (va_Qi (fun r (u : (Nat → Int32) × (Nat → Nat → Int32) × (Nat) × (Nat)) => post r u.1 u.2.1 u.2.2.1 u.2.2.2) (wAt (dC, dI) vwCl [(cI, .int)] A (fun u : (Nat → Int32) × (Nat → Nat → Int32) × (Nat) × (Nat) => wd1 cI h ad u.1 u.2.1 u.2.2.1 u.2.2.2)) A) ([.ref h, .int p1] : List Value).toArray s 0 0 A) (F0 m 30 ls [])) := by
    refine ⟨?_, ?_⟩
    · intro x2 I R q n hq H locs ls hP hD hS hl
      refine lv_iload_n hx hb dX1_pagesFor_5 rfl (lv_at hl 2 rfl) ?_
      refine lv_aload_n hx hb dX1_pagesFor_6 rfl (lv_at hl 0 rfl) ?_
      refine va_get (D := (dC, dI)) (ci := 1) (v := .int (I 1)) (C := RX1) (T := TX1) (N := 10) hx hb hts nX1_pagesFor_X1 hown hK hP 0 rfl rfl 1 (by decide) (hts _ mX1_pagesFor_f21) (fun _ h9 => h9) rfl dX1_pagesFor_7 ?_
      refine lv_icmp_ge (tgt := 30) hx hb dX1_pagesFor_10 (by decide) (fun hc => ?_) (fun hc => ?_)
      · have hq := hq.1 hc
        exact hq _ _ ls hP hD hS (lv_sub hl [0, 1] rfl)
      · have hq := hq.2 hc
        refine lv_iload_n hx hb dX1_pagesFor_13 rfl (lv_at hl 1 rfl) ?_
        refine lv_iload_n hx hb dX1_pagesFor_14 rfl (lv_at hl 2 rfl) ?_
        refine lv_ishr hx hb dX1_pagesFor_15 ?_
        refine lv_if_le (tgt := 30) hx hb dX1_pagesFor_16 (by decide) (fun hc => ?_) (fun hc => ?_)
        · have hq := hq.1 hc
          exact hq _ _ ls hP hD hS (lv_sub hl [0, 1] rfl)
        · have hq := hq.2 hc
          refine lv_aload_n hx hb dX1_pagesFor_19 rfl (lv_at hl 0 rfl) ?_
          refine lv_iload_n hx hb dX1_pagesFor_20 rfl (lv_at hl 2 rfl) ?_
          exact hq.elim
    · intro I R q n hq H locs ls hP hD hS hl
      refine lv_iload_n hx hb dX1_pagesFor_30 rfl (lv_at hl 1 rfl) ?_
      refine lv_if_lt (tgt := 54) hx hb dX1_pagesFor_31 (by decide) (fun hc => ?_) (fun hc => ?_)
      · have hq := hq.1 hc
        refine lv_iconst (v := (-1 : Int32)) hx hb dX1_pagesFor_54 (by decide) ?_
        exact w_iret (post := fun r (u : (Nat → Int32) × (Nat → Nat → Int32) × (Nat) × (Nat)) => post r u.1 u.2.1 u.2.2.1 u.2.2.2) (wf := fun u : (Nat → Int32) × (Nat → Nat → Int32) × (Nat) × (Nat) => wd1 cI h ad u.1 u.2.1 u.2.2.1 u.2.2.2) (u := (I, R, q, n)) hx hb hr hK hP hD hS hq dX1_pagesFor_55 hlocks
      · have hq := hq.2 hc
        refine lv_iload_n hx hb dX1_pagesFor_34 rfl (lv_at hl 1 rfl) ?_
        refine lv_aload_n hx hb dX1_pagesFor_35 rfl (lv_at hl 0 rfl) ?_
        refine va_get (D := (dC, dI)) (ci := 1) (v := .ref q) (C := RX1) (T := TX1) (N := 10) hx hb hts nX1_pagesFor_X1 hown hK hP 0 rfl rfl 4 (by decide) (hts _ mX1_pagesFor_f18) (fun _ h9 => h9) rfl dX1_pagesFor_36 ?_
        refine va_alen (v := nI n) hx hb hK hP 3 0 rfl rfl rfl dX1_pagesFor_39 ?_
        refine lv_icmp_ge (tgt := 54) hx hb dX1_pagesFor_40 (by decide) (fun hc => ?_) (fun hc => ?_)
        · have hq := hq.1 hc
          refine lv_iconst (v := (-1 : Int32)) hx hb dX1_pagesFor_54 (by decide) ?_
          exact w_iret (post := fun r (u : (Nat → Int32) × (Nat → Nat → Int32) × (Nat) × (Nat)) => post r u.1 u.2.1 u.2.2.1 u.2.2.2) (wf := fun u : (Nat → Int32) × (Nat → Nat → Int32) × (Nat) × (Nat) => wd1 cI h ad u.1 u.2.1 u.2.2.1 u.2.2.2) (u := (I, R, q, n)) hx hb hr hK hP hD hS hq dX1_pagesFor_55 hlocks
        · have hq := hq.2 hc
          refine lv_aload_n hx hb dX1_pagesFor_43 rfl (lv_at hl 0 rfl) ?_
          refine va_get (D := (dC, dI)) (ci := 1) (v := .ref q) (C := RX1) (T := TX1) (N := 10) hx hb hts nX1_pagesFor_X1 hown hK hP 0 rfl rfl 4 (by decide) (hts _ mX1_pagesFor_f18) (fun _ h9 => h9) rfl dX1_pagesFor_44 ?_
          refine lv_iload_n hx hb dX1_pagesFor_47 rfl (lv_at hl 1 rfl) ?_
          obtain ⟨hi_2, hq⟩ := hq
          refine va_iald (f := R 4) hx hb hK hP 3 0 rfl rfl hi_2 dX1_pagesFor_48 ?_
          refine lv_iconst (v := (4 : Int32)) hx hb dX1_pagesFor_49 (by decide) ?_
          refine lv_ishr hx hb dX1_pagesFor_50 ?_
          refine lv_goto (tgt := 55) hx hb dX1_pagesFor_51 (by decide) ?_
          exact w_iret (post := fun r (u : (Nat → Int32) × (Nat → Nat → Int32) × (Nat) × (Nat)) => post r u.1 u.2.1 u.2.2.1 u.2.2.2) (wf := fun u : (Nat → Int32) × (Nat → Nat → Int32) × (Nat) × (Nat) => wd1 cI h ad u.1 u.2.1 u.2.2.1 u.2.2.2) (u := (I, R, q, n)) hx hb hr hK hP hD hS hq dX1_pagesFor_55 hlocks
  have hl := lv_entry ([.ref h, .int p1]) (n := 3) (Nat.le_of_ble_eq_true rfl)
  rw [lg_entry_eq]
  generalize (lg_sl ([.ref h, .int p1]) ++ List.replicate (3 - (lg_sl ([.ref h, .int p1])).length) Slot.unset).toArray = ls at hl ⊢
  have hl : lv_has ls 3 [(0, .ref h), (1, .int p1)] := hl
  refine lv_aload_n hx hb dX1_pagesFor_0 rfl (lv_at hl 0 rfl) ?_
  refine va_get (D := (dC, dI)) (ci := 1) (v := .int (I 5)) (C := RX1) (T := TX1) (N := 10) hx hb hts nX1_pagesFor_X1 hown hK hP 0 rfl rfl 5 (by decide) (hts _ mX1_pagesFor_f28) (fun _ h9 => h9) rfl dX1_pagesFor_1 ?_
  refine lv_topi (fun x2_1 ex2_1 => ?_)
  have hq := hq x2_1 ex2_1
  refine lv_istore_n (lv' := [(2, .int x2_1), (0, .ref h), (1, .int p1)]) hx hb dX1_pagesFor_4 rfl hl (by decide) rfl (fun ls hl => ?_)
  exact hq _ _ hZ _ _ ls hP hD hS (lv_sub hl [1, 2, 0] rfl)
def zX1_leastPages (Y : Nat → Nat → (Int32 → (Nat → Int32) → (Nat → Nat → Int32) → Nat → Nat → Prop) → Int32 → Int32 → Int32 → Int32 → (Nat → Int32) → (Nat → Nat → Int32) → Nat → Nat → Prop) (mc : Nat) (ms : Nat) (post : Int32 → (Nat → Int32) → (Nat → Nat → Int32) → Nat → Nat → Prop) (p1 : Int32) (p2 : Int32) (p3 : Int32) (p4 : Int32) (X25 : Int32 → (Nat → Int32) → (Nat → Nat → Int32) → Nat → Nat → Nat → Nat → Prop) : Prop :=
  (∀ (x5 : Int32) (I : Nat → Int32) (R : Nat → Nat → Int32) (q : Nat) (n : Nat) (cs : Nat) (ss : Nat), (((p2 ≤ x5) → (post (-1 : Int32) I R q n)) ∧ ((¬ p2 ≤ x5) → ((((I 3) ≤ x5) → (post (-1 : Int32) I R q n)) ∧ ((¬ (I 3) ≤ x5) → (vp_in x5 14 ∧ (∃ (mc_4 kc_4 : Nat), (cs + mc_4 ≤ mc ∧ ss + kc_4 ≤ ms) ∧ (∃ Pc_4 : Int32 → (Nat → Int32) → (Nat → Nat → Int32) → Nat → Nat → Prop, Y mc_4 kc_4 Pc_4 (p1 - (1 : Int32)) x5 (p3 ||| (R 2 x5.toNatClampNeg)) p4 I R q n ∧ (∀ (rc_4 : Int32) (Ic_4 : Nat → Int32) (Rc_4 : Nat → Nat → Int32) (qc_4 : Nat) (nc_4 : Nat), Pc_4 rc_4 Ic_4 Rc_4 qc_4 nc_4 → (((rc_4 = (-1 : Int32)) → (X25 (x5 + (1 : Int32)) Ic_4 Rc_4 qc_4 nc_4 (cs + mc_4) (ss + kc_4))) ∧ ((¬ rc_4 = (-1 : Int32)) → (post (rc_4 ||| ((1 : Int32) <<< (x5 &&& 31))) Ic_4 Rc_4 qc_4 nc_4))))))))))) → X25 x5 I R q n cs ss)
def qX1_leastPages_25 (Y : Nat → Nat → (Int32 → (Nat → Int32) → (Nat → Nat → Int32) → Nat → Nat → Prop) → Int32 → Int32 → Int32 → Int32 → (Nat → Int32) → (Nat → Nat → Int32) → Nat → Nat → Prop) (mc : Nat) (ms : Nat) (post : Int32 → (Nat → Int32) → (Nat → Nat → Int32) → Nat → Nat → Prop) (p1 : Int32) (p2 : Int32) (p3 : Int32) (p4 : Int32) (x5 : Int32) (I : Nat → Int32) (R : Nat → Nat → Int32) (q : Nat) (n : Nat) (cs : Nat) (ss : Nat) : Prop := ∀ (X25 : Int32 → (Nat → Int32) → (Nat → Nat → Int32) → Nat → Nat → Nat → Nat → Prop), zX1_leastPages Y mc ms post p1 p2 p3 p4 X25 → X25 x5 I R q n cs ss
theorem kX1_leastPages_25 {Y : Nat → Nat → (Int32 → (Nat → Int32) → (Nat → Nat → Int32) → Nat → Nat → Prop) → Int32 → Int32 → Int32 → Int32 → (Nat → Int32) → (Nat → Nat → Int32) → Nat → Nat → Prop} {mc : Nat} {ms : Nat} {post : Int32 → (Nat → Int32) → (Nat → Nat → Int32) → Nat → Nat → Prop} {p1 : Int32} {p2 : Int32} {p3 : Int32} {p4 : Int32} {x5 : Int32} {I : Nat → Int32} {R : Nat → Nat → Int32} {q : Nat} {n : Nat} {cs : Nat} {ss : Nat} (h : ((p2 ≤ x5) → (post (-1 : Int32) I R q n)) ∧ ((¬ p2 ≤ x5) → ((((I 3) ≤ x5) → (post (-1 : Int32) I R q n)) ∧ ((¬ (I 3) ≤ x5) → (vp_in x5 14 ∧ (∃ (mc_4 kc_4 : Nat), (cs + mc_4 ≤ mc ∧ ss + kc_4 ≤ ms) ∧ (∃ Pc_4 : Int32 → (Nat → Int32) → (Nat → Nat → Int32) → Nat → Nat → Prop, Y mc_4 kc_4 Pc_4 (p1 - (1 : Int32)) x5 (p3 ||| (R 2 x5.toNatClampNeg)) p4 I R q n ∧ (∀ (rc_4 : Int32) (Ic_4 : Nat → Int32) (Rc_4 : Nat → Nat → Int32) (qc_4 : Nat) (nc_4 : Nat), Pc_4 rc_4 Ic_4 Rc_4 qc_4 nc_4 → (((rc_4 = (-1 : Int32)) → (qX1_leastPages_25 Y mc ms post p1 p2 p3 p4 (x5 + (1 : Int32)) Ic_4 Rc_4 qc_4 nc_4 (cs + mc_4) (ss + kc_4))) ∧ ((¬ rc_4 = (-1 : Int32)) → (post (rc_4 ||| ((1 : Int32) <<< (x5 &&& 31))) Ic_4 Rc_4 qc_4 nc_4))))))))))) : qX1_leastPages_25 Y mc ms post p1 p2 p3 p4 x5 I R q n cs ss := by
  intro Z25 hcl
  refine hcl x5 I R q n cs ss ?_
  refine ⟨fun c => ?_, fun c => ?_⟩
  · have h := h.1 c
    exact h
  · have h := h.2 c
    refine ⟨fun c => ?_, fun c => ?_⟩
    · have h := h.1 c
      exact h
    · have h := h.2 c
      refine ⟨h.1, ?_⟩
      have h := h.2
      obtain ⟨m1, k1, h0, P, h1, h2⟩ := h
      refine ⟨m1, k1, h0, P, h1, fun b0 b1 b2 b3 b4 hp => ?_⟩
      have h := h2 b0 b1 b2 b3 b4 hp
      refine ⟨fun c => ?_, fun c => ?_⟩
      · have h := h.1 c
        exact h _ hcl
      · have h := h.2 c
        exact h
def qX1_leastPages : Nat → Nat → Nat → (Int32 → (Nat → Int32) → (Nat → Nat → Int32) → Nat → Nat → Prop) → Int32 → Int32 → Int32 → Int32 → (Nat → Int32) → (Nat → Nat → Int32) → Nat → Nat → Prop
  | 0, _, _, _, _, _, _, _, _, _, _, _ => False
  | d + 1, mc, ms, post, p1, p2, p3, p4, I, R, q, n => ((0 < p1) → (∀ x5_1 : Int32, x5_1 = p1 - (1 : Int32) → (qX1_leastPages_25 (qX1_leastPages d) mc ms post p1 p2 p3 p4 x5_1 I R q n 0 0))) ∧ ((¬ 0 < p1) → (∃ (mc_2 kc_2 : Nat), (0 + mc_2 ≤ mc ∧ 0 + kc_2 ≤ ms) ∧ (∃ Pc_2 : Int32 → (Nat → Int32) → (Nat → Nat → Int32) → Nat → Nat → Prop, qX1_pagesFor mc_2 kc_2 Pc_2 p3 I R q n ∧ (∀ (rc_2 : Int32) (Ic_2 : Nat → Int32) (Rc_2 : Nat → Nat → Int32) (qc_2 : Nat) (nc_2 : Nat), Pc_2 rc_2 Ic_2 Rc_2 qc_2 nc_2 → (((p4 < rc_2) → (post (-1 : Int32) Ic_2 Rc_2 qc_2 nc_2)) ∧ ((¬ p4 < rc_2) → (post (0 : Int32) Ic_2 Rc_2 qc_2 nc_2)))))))
theorem mX1_leastPages_f25 : Cond.fieldLink RX1 25 "YearBook$Pages" "count" "I" ∈ wsX1_leastPages := by decide +kernel
theorem nX1_leastPages_X1 : ∀ w ∈ u_ws RX1 TX1 10, w ∈ wsX1_leastPages := by decide +kernel
theorem mX1_leastPages_f15 : Cond.fieldLink RX1 15 "YearBook$Pages" "sets" "[I" ∈ wsX1_leastPages := by decide +kernel
set_option maxHeartbeats 4000000 in
set_option maxRecDepth 100000 in
theorem tX1_leastPages (l : Launch) (dC : Nat → ClassId) (dI : Nat → Nat → Nat) (cI : ClassId) (h : Nat) (ad : Nat → Nat) : ∀ (d : Nat) (sz : Nat) (mc : Nat) (ms : Nat) (post : Int32 → (Nat → Int32) → (Nat → Nat → Int32) → Nat → Nat → Prop) (p1 : Int32) (p2 : Int32) (p3 : Int32) (p4 : Int32) (I : Nat → Int32) (R : Nat → Nat → Int32) (q : Nat) (n : Nat) (hq : qX1_leastPages d mc ms post p1 p2 p3 p4 I R q n), Met l yX1_leastPages wsX1_leastPages ({ frames := 4 + d, cells := mc, slots := ms, locals := 129 + d * 26 } : Room) (va_Pc [.ref h, .int p1, .int p2, .int p3, .int p4] (wPre (dC, dI) vwCl [(cI, .int)] (wd1 cI h ad I R q n) sz)) (va_Qi (fun r (u : (Nat → Int32) × (Nat → Nat → Int32) × (Nat) × (Nat)) => post r u.1 u.2.1 u.2.2.1 u.2.2.2) (wAt (dC, dI) vwCl [(cI, .int)] (va_A (wd1 cI h ad I R q n) sz) (fun u : (Nat → Int32) × (Nat → Nat → Int32) × (Nat) × (Nat) => wd1 cI h ad u.1 u.2.1 u.2.2.1 u.2.2.2)) (va_A (wd1 cI h ad I R q n) sz)) mc ms (va_A (wd1 cI h ad I R q n) sz) := by
  intro d
  induction d with
  | zero => intro sz mc ms post p1 p2 p3 p4 I R q n hq; exact False.elim hq
  | succ d ih =>
    intro sz mc ms post p1 p2 p3 p4 I R q n hq
    unfold qX1_leastPages at hq
    refine Met.ofW (cc := cX1_leastPages) (maxL := 7) (ret := (some .int)) (by decide) rfl ?_
    intro p e s m args below meth c s₁ B hml hv
    obtain ⟨rfl, hsz, hP, hK, hD0⟩ := hv
    have hx := B.exec
    have hb := B.bytes
    have hr := B.returns
    have hts := atoms_spec (ws := wsX1_leastPages) B.pre
    have hown : s.vm.findClass RX1 = some m.cls := findClass_of_methodNamed B.named
    have hlocks := B.notSynchronized
    subst hsz
    have hD := hD0.self (sz := s.heap.size)
    generalize hAe : va_A (wd1 cI h ad I R q n) s.heap.size = A at hD ⊢
    have hA : ∀ q : Nat, s.heap.size ≤ q → A q := fun q h => by rw [← hAe]; exact Or.inr h
    have hS : va_S A s.heap s.heap [] := va_S.rf
    have hZ : zX1_leastPages (qX1_leastPages d) mc ms post p1 p2 p3 p4
        (fun (x5 : Int32) (I : Nat → Int32) (R : Nat → Nat → Int32) (q : Nat) (n : Nat) (cs : Nat) (ss : Nat) => ∀ (H : Heap) (locs : List Loc) (ls : Array Slot), cs ≤ mc → ss ≤ ms → va_P (dC, dI) vwCl (wd1 cI h ad I R q n) H → va_D A (wd1 cI h ad I R q n) → va_S A s.heap H locs → lv_has ls 7 [(0, .ref h), (1, .int p1), (2, .int p2), (3, .int p3), (4, .int p4), (5, .int x5)] → W p l e (headSpec wsX1_leastPages ({ frames := 4 + (d + 1), cells := mc, slots := ms, locals := 129 + (d + 1) * 26 } : Room)).room s m ([.ref h, .int p1, .int p2, .int p3, .int p4] : List Value).toArray below meth c H locs cs ss (MQ below (va_Qi (fun r (u : (Nat → Int32) × (Nat → Nat → Int32) × (Nat) × (Nat)) => post r u.1 u.2.1 u.2.2.1 u.2.2.2) (wAt (dC, dI) vwCl [(cI, .int)] A (fun u : (Nat → Int32) × (Nat → Nat → Int32) × (Nat) × (Nat) => wd1 cI h ad u.1 u.2.1 u.2.2.1 u.2.2.2)) A) ([.ref h, .int p1, .int p2, .int p3, .int p4] : List Value).toArray s mc ms A) (F0 m 25 ls [])) := by
      unfold zX1_leastPages
      intro x5 I R q n cs ss hq H locs ls hcm hsm hP hD hS hl
      refine lv_iload hx hb dX1_leastPages_25 (lv_at hl 5 rfl) ?_
      refine lv_iload_n hx hb dX1_leastPages_27 rfl (lv_at hl 2 rfl) ?_
      refine lv_icmp_ge (tgt := 82) hx hb dX1_leastPages_28 (by decide) (fun hc => ?_) (fun hc => ?_)
      · have hq := hq.1 hc
        refine lv_iconst (v := (-1 : Int32)) hx hb dX1_leastPages_82 (by decide) ?_
        refine W.widen (k := mc) (n := ms) hcm hsm ?_
        exact w_iret (post := fun r (u : (Nat → Int32) × (Nat → Nat → Int32) × (Nat) × (Nat)) => post r u.1 u.2.1 u.2.2.1 u.2.2.2) (wf := fun u : (Nat → Int32) × (Nat → Nat → Int32) × (Nat) × (Nat) => wd1 cI h ad u.1 u.2.1 u.2.2.1 u.2.2.2) (u := (I, R, q, n)) hx hb hr hK hP hD hS hq dX1_leastPages_83 hlocks
      · have hq := hq.2 hc
        refine lv_iload hx hb dX1_leastPages_31 (lv_at hl 5 rfl) ?_
        refine lv_aload_n hx hb dX1_leastPages_33 rfl (lv_at hl 0 rfl) ?_
        refine va_get (D := (dC, dI)) (ci := 1) (v := .int (I 3)) (C := RX1) (T := TX1) (N := 10) hx hb hts nX1_leastPages_X1 hown hK hP 0 rfl rfl 3 (by decide) (hts _ mX1_leastPages_f25) (fun _ h9 => h9) rfl dX1_leastPages_34 ?_
        refine lv_icmp_ge (tgt := 82) hx hb dX1_leastPages_37 (by decide) (fun hc => ?_) (fun hc => ?_)
        · have hq := hq.1 hc
          refine lv_iconst (v := (-1 : Int32)) hx hb dX1_leastPages_82 (by decide) ?_
          refine W.widen (k := mc) (n := ms) hcm hsm ?_
          exact w_iret (post := fun r (u : (Nat → Int32) × (Nat → Nat → Int32) × (Nat) × (Nat)) => post r u.1 u.2.1 u.2.2.1 u.2.2.2) (wf := fun u : (Nat → Int32) × (Nat → Nat → Int32) × (Nat) × (Nat) => wd1 cI h ad u.1 u.2.1 u.2.2.1 u.2.2.2) (u := (I, R, q, n)) hx hb hr hK hP hD hS hq dX1_leastPages_83 hlocks
        · have hq := hq.2 hc
          refine lv_aload_n hx hb dX1_leastPages_40 rfl (lv_at hl 0 rfl) ?_
          refine lv_iload_n hx hb dX1_leastPages_41 rfl (lv_at hl 1 rfl) ?_
          refine lv_iconst (v := (1 : Int32)) hx hb dX1_leastPages_42 (by decide) ?_
          refine lv_isub hx hb dX1_leastPages_43 ?_
          refine lv_iload hx hb dX1_leastPages_44 (lv_at hl 5 rfl) ?_
          refine lv_iload_n hx hb dX1_leastPages_46 rfl (lv_at hl 3 rfl) ?_
          refine lv_aload_n hx hb dX1_leastPages_47 rfl (lv_at hl 0 rfl) ?_
          refine va_get (D := (dC, dI)) (ci := 1) (v := .ref (ad 2)) (C := RX1) (T := TX1) (N := 10) hx hb hts nX1_leastPages_X1 hown hK hP 0 rfl rfl 2 (by decide) (hts _ mX1_leastPages_f15) (fun _ h9 => h9) rfl dX1_leastPages_48 ?_
          refine lv_iload hx hb dX1_leastPages_51 (lv_at hl 5 rfl) ?_
          obtain ⟨hi_3, hq⟩ := hq
          refine va_iald (f := R 2) hx hb hK hP 2 0 rfl rfl hi_3 dX1_leastPages_53 ?_
          refine lv_ior hx hb dX1_leastPages_54 ?_
          refine lv_iload hx hb dX1_leastPages_55 (lv_at hl 4 rfl) ?_
          obtain ⟨mc_4, kc_4, ⟨hcm, hsm⟩, Pc_4, hc, hq⟩ := hq
          refine w_calli (wf := fun u : (Nat → Int32) × (Nat → Nat → Int32) × (Nat) × (Nat) => wd1 cI h ad u.1 u.2.1 u.2.2.1 u.2.2.2) (va_runV (As := [.int (p1 - (1 : Int32)), .int x5, .int (p3 ||| (R 2 x5.toNatClampNeg)), .int p4]) (rest := []) ⟨hx, hb, hml, hown, hts⟩ (ih _ mc_4 kc_4 Pc_4 (p1 - (1 : Int32)) x5 (p3 ||| (R 2 x5.toNatClampNeg)) p4 I R q n hc) (cwV 4 hts gX1_leastPages_X1_leastPages rfl rfl rfl (by decide +kernel) ⟨by show 4 + d + 1 ≤ 4 + (d + 1); omega, by show 8 + (7 + 11) + (129 + d * 26) ≤ 129 + (d + 1) * 26; omega⟩) (wPreV hK hP hD (ci := 1) (q0 := 0) rfl rfl) rfl rfl hl.1 rfl (lv_room (Nat.le_of_ble_eq_true rfl)) dX1_leastPages_57 ⟨hcm, hsm⟩) hD hS hA (fun rc_4 u H locs hp hP hD hS => ?_)
          obtain ⟨Ic_4, Rc_4, qc_4, nc_4⟩ := u
          have hq := hq rc_4 Ic_4 Rc_4 qc_4 nc_4 hp
          have hP : va_P (dC, dI) vwCl (wd1 cI h ad Ic_4 Rc_4 qc_4 nc_4) H := hP
          have hD : va_D A (wd1 cI h ad Ic_4 Rc_4 qc_4 nc_4) := hD
          refine lv_istore (lv' := [(6, .int rc_4), (0, .ref h), (1, .int p1), (2, .int p2), (3, .int p3), (4, .int p4), (5, .int x5)]) hx hb dX1_leastPages_60 hl (by decide) rfl (fun ls hl => ?_)
          refine lv_iload hx hb dX1_leastPages_62 (lv_at hl 0 rfl) ?_
          refine lv_iconst (v := (-1 : Int32)) hx hb dX1_leastPages_64 (by decide) ?_
          refine lv_icmp_eq (tgt := 76) hx hb dX1_leastPages_65 (by decide) (fun hc => ?_) (fun hc => ?_)
          · have hq := hq.1 hc
            refine lv_iinc (v := x5 + (1 : Int32)) (lv' := [(5, .int (x5 + (1 : Int32))), (6, .int rc_4), (0, .ref h), (1, .int p1), (2, .int p2), (3, .int p3), (4, .int p4)]) hx hb dX1_leastPages_76 hl (k := 6) rfl rfl (by decide) rfl (fun ls hl => ?_)
            refine lv_goto (tgt := 25) hx hb dX1_leastPages_79 (by decide) ?_
            exact hq _ _ ls hcm hsm hP hD hS (lv_sub hl [2, 3, 4, 5, 6, 0] rfl)
          · have hq := hq.2 hc
            refine lv_iload hx hb dX1_leastPages_68 (lv_at hl 0 rfl) ?_
            refine lv_iconst (v := (1 : Int32)) hx hb dX1_leastPages_70 (by decide) ?_
            refine lv_iload hx hb dX1_leastPages_71 (lv_at hl 6 rfl) ?_
            refine lv_ishl hx hb dX1_leastPages_73 ?_
            refine lv_ior hx hb dX1_leastPages_74 ?_
            refine W.widen (k := mc) (n := ms) hcm hsm ?_
            exact w_iret (post := fun r (u : (Nat → Int32) × (Nat → Nat → Int32) × (Nat) × (Nat)) => post r u.1 u.2.1 u.2.2.1 u.2.2.2) (wf := fun u : (Nat → Int32) × (Nat → Nat → Int32) × (Nat) × (Nat) => wd1 cI h ad u.1 u.2.1 u.2.2.1 u.2.2.2) (u := (Ic_4, Rc_4, qc_4, nc_4)) hx hb hr hK hP hD hS hq dX1_leastPages_75 hlocks
    have hl := lv_entry ([.ref h, .int p1, .int p2, .int p3, .int p4]) (n := 7) (Nat.le_of_ble_eq_true rfl)
    rw [lg_entry_eq]
    generalize (lg_sl ([.ref h, .int p1, .int p2, .int p3, .int p4]) ++ List.replicate (7 - (lg_sl ([.ref h, .int p1, .int p2, .int p3, .int p4])).length) Slot.unset).toArray = ls at hl ⊢
    have hl : lv_has ls 7 [(0, .ref h), (1, .int p1), (2, .int p2), (3, .int p3), (4, .int p4)] := hl
    have hcm : 0 ≤ mc := Nat.zero_le _
    have hsm : 0 ≤ ms := Nat.zero_le _
    refine lv_iload_n hx hb dX1_leastPages_0 rfl (lv_at hl 1 rfl) ?_
    refine lv_if_gt (tgt := 20) hx hb dX1_leastPages_1 (by decide) (fun hc => ?_) (fun hc => ?_)
    · have hq := hq.1 hc
      refine lv_iload_n hx hb dX1_leastPages_20 rfl (lv_at hl 1 rfl) ?_
      refine lv_iconst (v := (1 : Int32)) hx hb dX1_leastPages_21 (by decide) ?_
      refine lv_isub hx hb dX1_leastPages_22 ?_
      refine lv_topi (fun x5_1 ex5_1 => ?_)
      have hq := hq x5_1 ex5_1
      refine lv_istore (lv' := [(5, .int x5_1), (0, .ref h), (1, .int p1), (2, .int p2), (3, .int p3), (4, .int p4)]) hx hb dX1_leastPages_23 hl (by decide) rfl (fun ls hl => ?_)
      exact hq _ hZ _ _ ls hcm hsm hP hD hS (lv_sub hl [1, 2, 3, 4, 5, 0] rfl)
    · have hq := hq.2 hc
      refine lv_aload_n hx hb dX1_leastPages_4 rfl (lv_at hl 0 rfl) ?_
      refine lv_iload_n hx hb dX1_leastPages_5 rfl (lv_at hl 3 rfl) ?_
      obtain ⟨mc_2, kc_2, ⟨hcm, hsm⟩, Pc_2, hc, hq⟩ := hq
      refine w_calli (wf := fun u : (Nat → Int32) × (Nat → Nat → Int32) × (Nat) × (Nat) => wd1 cI h ad u.1 u.2.1 u.2.2.1 u.2.2.2) (va_runV (As := [.int p3]) (rest := []) ⟨hx, hb, hml, hown, hts⟩ (tX1_pagesFor l dC dI cI h ad _ mc_2 kc_2 Pc_2 p3 I R q n hc) (cwV 1 hts gX1_leastPages_X1_pagesFor rfl rfl rfl (by decide +kernel) ⟨by show 3 + 1 ≤ 4 + (d + 1); omega, by show 8 + (3 + 11) + 107 ≤ 129 + (d + 1) * 26; omega⟩) (wPreV hK hP hD (ci := 1) (q0 := 0) rfl rfl) rfl rfl hl.1 rfl (lv_room (Nat.le_of_ble_eq_true rfl)) dX1_leastPages_6 ⟨hcm, hsm⟩) hD hS hA (fun rc_2 u H locs hp hP hD hS => ?_)
      obtain ⟨Ic_2, Rc_2, qc_2, nc_2⟩ := u
      have hq := hq rc_2 Ic_2 Rc_2 qc_2 nc_2 hp
      have hP : va_P (dC, dI) vwCl (wd1 cI h ad Ic_2 Rc_2 qc_2 nc_2) H := hP
      have hD : va_D A (wd1 cI h ad Ic_2 Rc_2 qc_2 nc_2) := hD
      refine lv_iload hx hb dX1_leastPages_9 (lv_at hl 4 rfl) ?_
      refine lv_icmp_gt (tgt := 18) hx hb dX1_leastPages_11 (by decide) (fun hc => ?_) (fun hc => ?_)
      · have hq := hq.1 hc
        refine lv_iconst (v := (-1 : Int32)) hx hb dX1_leastPages_18 (by decide) ?_
        refine W.widen (k := mc) (n := ms) hcm hsm ?_
        exact w_iret (post := fun r (u : (Nat → Int32) × (Nat → Nat → Int32) × (Nat) × (Nat)) => post r u.1 u.2.1 u.2.2.1 u.2.2.2) (wf := fun u : (Nat → Int32) × (Nat → Nat → Int32) × (Nat) × (Nat) => wd1 cI h ad u.1 u.2.1 u.2.2.1 u.2.2.2) (u := (Ic_2, Rc_2, qc_2, nc_2)) hx hb hr hK hP hD hS hq dX1_leastPages_19 hlocks
      · have hq := hq.2 hc
        refine lv_iconst (v := (0 : Int32)) hx hb dX1_leastPages_14 (by decide) ?_
        refine lv_goto (tgt := 19) hx hb dX1_leastPages_15 (by decide) ?_
        refine W.widen (k := mc) (n := ms) hcm hsm ?_
        exact w_iret (post := fun r (u : (Nat → Int32) × (Nat → Nat → Int32) × (Nat) × (Nat)) => post r u.1 u.2.1 u.2.2.1 u.2.2.2) (wf := fun u : (Nat → Int32) × (Nat → Nat → Int32) × (Nat) × (Nat) => wd1 cI h ad u.1 u.2.1 u.2.2.1 u.2.2.2) (u := (Ic_2, Rc_2, qc_2, nc_2)) hx hb hr hK hP hD hS hq dX1_leastPages_19 hlocks
def zX1_pagesToChange (mc : Nat) (ms : Nat) (post : Int32 → (Nat → Int32) → (Nat → Nat → Int32) → Nat → Nat → Prop) (p1 : Int32) (X6 : Int32 → Int32 → (Nat → Int32) → (Nat → Nat → Int32) → Nat → Nat → Nat → Nat → Prop) (X48 : Int32 → (Nat → Int32) → (Nat → Nat → Int32) → Nat → Nat → Nat → Nat → Prop) : Prop :=
  (∀ (x2 : Int32) (x3 : Int32) (I : Nat → Int32) (R : Nat → Nat → Int32) (q : Nat) (n : Nat) (cs : Nat) (ss : Nat), ((((I 3) ≤ x3) → (∃ Pc_2 : Int32 → Prop, qX1_pointsOf Pc_2 x2 I R q n ∧ (∀ (rc_2 : Int32), Pc_2 rc_2 → (((rc_2 ≤ ((I 3) * (12 : Int32))) → (X48 (1 : Int32) I R q n cs ss)) ∧ ((¬ rc_2 ≤ ((I 3) * (12 : Int32))) → (post (0 : Int32) I R q n)))))) ∧ ((¬ (I 3) ≤ x3) → (vp_in x3 14 ∧ (∀ x2_4 : Int32, x2_4 = x2 ||| (R 2 x3.toNatClampNeg) → (X6 x2_4 (x3 + (1 : Int32)) I R q n cs ss))))) → X6 x2 x3 I R q n cs ss) ∧
  (∀ (x3 : Int32) (I : Nat → Int32) (R : Nat → Nat → Int32) (q : Nat) (n : Nat) (cs : Nat) (ss : Nat), ((((I 3) < x3) → (post (0 : Int32) I R q n)) ∧ ((¬ (I 3) < x3) → (∃ (mc_5 kc_5 : Nat), (cs + mc_5 ≤ mc ∧ ss + kc_5 ≤ ms) ∧ (∃ Pc_5 : Int32 → (Nat → Int32) → (Nat → Nat → Int32) → Nat → Nat → Prop, qX1_leastPages 20 mc_5 kc_5 Pc_5 x3 (I 3) ((1 : Int32) <<< (p1 &&& 31)) x3 I R q n ∧ (∀ (rc_5 : Int32) (Ic_5 : Nat → Int32) (Rc_5 : Nat → Nat → Int32) (qc_5 : Nat) (nc_5 : Nat), Pc_5 rc_5 Ic_5 Rc_5 qc_5 nc_5 → (((rc_5 = (-1 : Int32)) → (X48 (x3 + (1 : Int32)) Ic_5 Rc_5 qc_5 nc_5 (cs + mc_5) (ss + kc_5))) ∧ ((¬ rc_5 = (-1 : Int32)) → (post rc_5 Ic_5 Rc_5 qc_5 nc_5)))))))) → X48 x3 I R q n cs ss)
def qX1_pagesToChange_6 (mc : Nat) (ms : Nat) (post : Int32 → (Nat → Int32) → (Nat → Nat → Int32) → Nat → Nat → Prop) (p1 : Int32) (x2 : Int32) (x3 : Int32) (I : Nat → Int32) (R : Nat → Nat → Int32) (q : Nat) (n : Nat) (cs : Nat) (ss : Nat) : Prop := ∀ (X6 : Int32 → Int32 → (Nat → Int32) → (Nat → Nat → Int32) → Nat → Nat → Nat → Nat → Prop) (X48 : Int32 → (Nat → Int32) → (Nat → Nat → Int32) → Nat → Nat → Nat → Nat → Prop), zX1_pagesToChange mc ms post p1 X6 X48 → X6 x2 x3 I R q n cs ss
def qX1_pagesToChange_48 (mc : Nat) (ms : Nat) (post : Int32 → (Nat → Int32) → (Nat → Nat → Int32) → Nat → Nat → Prop) (p1 : Int32) (x3 : Int32) (I : Nat → Int32) (R : Nat → Nat → Int32) (q : Nat) (n : Nat) (cs : Nat) (ss : Nat) : Prop := ∀ (X6 : Int32 → Int32 → (Nat → Int32) → (Nat → Nat → Int32) → Nat → Nat → Nat → Nat → Prop) (X48 : Int32 → (Nat → Int32) → (Nat → Nat → Int32) → Nat → Nat → Nat → Nat → Prop), zX1_pagesToChange mc ms post p1 X6 X48 → X48 x3 I R q n cs ss
theorem kX1_pagesToChange_6 {mc : Nat} {ms : Nat} {post : Int32 → (Nat → Int32) → (Nat → Nat → Int32) → Nat → Nat → Prop} {p1 : Int32} {x2 : Int32} {x3 : Int32} {I : Nat → Int32} {R : Nat → Nat → Int32} {q : Nat} {n : Nat} {cs : Nat} {ss : Nat} (h : (((I 3) ≤ x3) → (∃ Pc_2 : Int32 → Prop, qX1_pointsOf Pc_2 x2 I R q n ∧ (∀ (rc_2 : Int32), Pc_2 rc_2 → (((rc_2 ≤ ((I 3) * (12 : Int32))) → (qX1_pagesToChange_48 mc ms post p1 (1 : Int32) I R q n cs ss)) ∧ ((¬ rc_2 ≤ ((I 3) * (12 : Int32))) → (post (0 : Int32) I R q n)))))) ∧ ((¬ (I 3) ≤ x3) → (vp_in x3 14 ∧ (∀ x2_4 : Int32, x2_4 = x2 ||| (R 2 x3.toNatClampNeg) → (qX1_pagesToChange_6 mc ms post p1 x2_4 (x3 + (1 : Int32)) I R q n cs ss))))) : qX1_pagesToChange_6 mc ms post p1 x2 x3 I R q n cs ss := by
  intro Z6 Z48 hcl
  refine hcl.1 x2 x3 I R q n cs ss ?_
  refine ⟨fun c => ?_, fun c => ?_⟩
  · have h := h.1 c
    obtain ⟨P, h1, h2⟩ := h
    refine ⟨P, h1, fun b0 hp => ?_⟩
    have h := h2 b0 hp
    refine ⟨fun c => ?_, fun c => ?_⟩
    · have h := h.1 c
      exact h _ _ hcl
    · have h := h.2 c
      exact h
  · have h := h.2 c
    refine ⟨h.1, ?_⟩
    have h := h.2
    intro x e
    have h := h x e
    exact h _ _ hcl
theorem kX1_pagesToChange_48 {mc : Nat} {ms : Nat} {post : Int32 → (Nat → Int32) → (Nat → Nat → Int32) → Nat → Nat → Prop} {p1 : Int32} {x3 : Int32} {I : Nat → Int32} {R : Nat → Nat → Int32} {q : Nat} {n : Nat} {cs : Nat} {ss : Nat} (h : (((I 3) < x3) → (post (0 : Int32) I R q n)) ∧ ((¬ (I 3) < x3) → (∃ (mc_5 kc_5 : Nat), (cs + mc_5 ≤ mc ∧ ss + kc_5 ≤ ms) ∧ (∃ Pc_5 : Int32 → (Nat → Int32) → (Nat → Nat → Int32) → Nat → Nat → Prop, qX1_leastPages 20 mc_5 kc_5 Pc_5 x3 (I 3) ((1 : Int32) <<< (p1 &&& 31)) x3 I R q n ∧ (∀ (rc_5 : Int32) (Ic_5 : Nat → Int32) (Rc_5 : Nat → Nat → Int32) (qc_5 : Nat) (nc_5 : Nat), Pc_5 rc_5 Ic_5 Rc_5 qc_5 nc_5 → (((rc_5 = (-1 : Int32)) → (qX1_pagesToChange_48 mc ms post p1 (x3 + (1 : Int32)) Ic_5 Rc_5 qc_5 nc_5 (cs + mc_5) (ss + kc_5))) ∧ ((¬ rc_5 = (-1 : Int32)) → (post rc_5 Ic_5 Rc_5 qc_5 nc_5)))))))) : qX1_pagesToChange_48 mc ms post p1 x3 I R q n cs ss := by
  intro Z6 Z48 hcl
  refine hcl.2 x3 I R q n cs ss ?_
  refine ⟨fun c => ?_, fun c => ?_⟩
  · have h := h.1 c
    exact h
  · have h := h.2 c
    obtain ⟨m1, k1, h0, P, h1, h2⟩ := h
    refine ⟨m1, k1, h0, P, h1, fun b0 b1 b2 b3 b4 hp => ?_⟩
    have h := h2 b0 b1 b2 b3 b4 hp
    refine ⟨fun c => ?_, fun c => ?_⟩
    · have h := h.1 c
      exact h _ _ hcl
    · have h := h.2 c
      exact h
def qX1_pagesToChange (mc : Nat) (ms : Nat) (post : Int32 → (Nat → Int32) → (Nat → Nat → Int32) → Nat → Nat → Prop) (p1 : Int32) (I : Nat → Int32) (R : Nat → Nat → Int32) (q : Nat) (n : Nat) : Prop := ∀ x2_1 : Int32, x2_1 = (1 : Int32) <<< (p1 &&& 31) → (qX1_pagesToChange_6 mc ms post p1 x2_1 (0 : Int32) I R q n 0 0)
theorem mX1_pagesToChange_f25 : Cond.fieldLink RX1 25 "YearBook$Pages" "count" "I" ∈ wsX1_pagesToChange := by decide +kernel
theorem nX1_pagesToChange_X1 : ∀ w ∈ u_ws RX1 TX1 10, w ∈ wsX1_pagesToChange := by decide +kernel
theorem mX1_pagesToChange_f15 : Cond.fieldLink RX1 15 "YearBook$Pages" "sets" "[I" ∈ wsX1_pagesToChange := by decide +kernel
set_option maxHeartbeats 4000000 in
set_option maxRecDepth 100000 in
theorem tX1_pagesToChange (l : Launch) (dC : Nat → ClassId) (dI : Nat → Nat → Nat) (cI : ClassId) (h : Nat) (ad : Nat → Nat)  (sz : Nat) (mc : Nat) (ms : Nat) (post : Int32 → (Nat → Int32) → (Nat → Nat → Int32) → Nat → Nat → Prop) (p1 : Int32) (I : Nat → Int32) (R : Nat → Nat → Int32) (q : Nat) (n : Nat) (hq : qX1_pagesToChange mc ms post p1 I R q n) : Met l yX1_pagesToChange wsX1_pagesToChange ({ frames := 25, cells := mc, slots := ms, locals := 675 } : Room) (va_Pc [.ref h, .int p1] (wPre (dC, dI) vwCl [(cI, .int)] (wd1 cI h ad I R q n) sz)) (va_Qi (fun r (u : (Nat → Int32) × (Nat → Nat → Int32) × (Nat) × (Nat)) => post r u.1 u.2.1 u.2.2.1 u.2.2.2) (wAt (dC, dI) vwCl [(cI, .int)] (va_A (wd1 cI h ad I R q n) sz) (fun u : (Nat → Int32) × (Nat → Nat → Int32) × (Nat) × (Nat) => wd1 cI h ad u.1 u.2.1 u.2.2.1 u.2.2.2)) (va_A (wd1 cI h ad I R q n) sz)) mc ms (va_A (wd1 cI h ad I R q n) sz) := by
  unfold qX1_pagesToChange at hq
  refine Met.ofW (cc := cX1_pagesToChange) (maxL := 5) (ret := (some .int)) (by decide) rfl ?_
  intro p e s m args below meth c s₁ B hml hv
  obtain ⟨rfl, hsz, hP, hK, hD0⟩ := hv
  have hx := B.exec
  have hb := B.bytes
  have hr := B.returns
  have hts := atoms_spec (ws := wsX1_pagesToChange) B.pre
  have hown : s.vm.findClass RX1 = some m.cls := findClass_of_methodNamed B.named
  have hlocks := B.notSynchronized
  subst hsz
  have hD := hD0.self (sz := s.heap.size)
  generalize hAe : va_A (wd1 cI h ad I R q n) s.heap.size = A at hD ⊢
  have hA : ∀ q : Nat, s.heap.size ≤ q → A q := fun q h => by rw [← hAe]; exact Or.inr h
  have hS : va_S A s.heap s.heap [] := va_S.rf
  have hZ : zX1_pagesToChange mc ms post p1
      (fun (x2 : Int32) (x3 : Int32) (I : Nat → Int32) (R : Nat → Nat → Int32) (q : Nat) (n : Nat) (cs : Nat) (ss : Nat) => ∀ (H : Heap) (locs : List Loc) (ls : Array Slot), cs ≤ mc → ss ≤ ms → va_P (dC, dI) vwCl (wd1 cI h ad I R q n) H → va_D A (wd1 cI h ad I R q n) → va_S A s.heap H locs → lv_has ls 5 [(0, .ref h), (1, .int p1), (2, .int x2), (3, .int x3)] → W p l e (headSpec wsX1_pagesToChange ({ frames := 25, cells := mc, slots := ms, locals := 675 } : Room)).room s m ([.ref h, .int p1] : List Value).toArray below meth c H locs cs ss (MQ below (va_Qi (fun r (u : (Nat → Int32) × (Nat → Nat → Int32) × (Nat) × (Nat)) => post r u.1 u.2.1 u.2.2.1 u.2.2.2) (wAt (dC, dI) vwCl [(cI, .int)] A (fun u : (Nat → Int32) × (Nat → Nat → Int32) × (Nat) × (Nat) => wd1 cI h ad u.1 u.2.1 u.2.2.1 u.2.2.2)) A) ([.ref h, .int p1] : List Value).toArray s mc ms A) (F0 m 6 ls []))
      (fun (x3 : Int32) (I : Nat → Int32) (R : Nat → Nat → Int32) (q : Nat) (n : Nat) (cs : Nat) (ss : Nat) => ∀ (H : Heap) (locs : List Loc) (ls : Array Slot), cs ≤ mc → ss ≤ ms → va_P (dC, dI) vwCl (wd1 cI h ad I R q n) H → va_D A (wd1 cI h ad I R q n) → va_S A s.heap H locs → lv_has ls 5 [(0, .ref h), (1, .int p1), (3, .int x3)] → W p l e (headSpec wsX1_pagesToChange ({ frames := 25, cells := mc, slots := ms, locals := 675 } : Room)).room s m ([.ref h, .int p1] : List Value).toArray below meth c H locs cs ss (MQ below (va_Qi (fun r (u : (Nat → Int32) × (Nat → Nat → Int32) × (Nat) × (Nat)) => post r u.1 u.2.1 u.2.2.1 u.2.2.2) (wAt (dC, dI) vwCl [(cI, .int)] A (fun u : (Nat → Int32) × (Nat → Nat → Int32) × (Nat) × (Nat) => wd1 cI h ad u.1 u.2.1 u.2.2.1 u.2.2.2)) A) ([.ref h, .int p1] : List Value).toArray s mc ms A) (F0 m 48 ls [])) := by
    refine ⟨?_, ?_⟩
    · intro x2 x3 I R q n cs ss hq H locs ls hcm hsm hP hD hS hl
      refine lv_iload_n hx hb dX1_pagesToChange_6 rfl (lv_at hl 3 rfl) ?_
      refine lv_aload_n hx hb dX1_pagesToChange_7 rfl (lv_at hl 0 rfl) ?_
      refine va_get (D := (dC, dI)) (ci := 1) (v := .int (I 3)) (C := RX1) (T := TX1) (N := 10) hx hb hts nX1_pagesToChange_X1 hown hK hP 0 rfl rfl 3 (by decide) (hts _ mX1_pagesToChange_f25) (fun _ h9 => h9) rfl dX1_pagesToChange_8 ?_
      refine lv_icmp_ge (tgt := 29) hx hb dX1_pagesToChange_11 (by decide) (fun hc => ?_) (fun hc => ?_)
      · have hq := hq.1 hc
        refine lv_aload_n hx hb dX1_pagesToChange_29 rfl (lv_at hl 0 rfl) ?_
        refine lv_iload_n hx hb dX1_pagesToChange_30 rfl (lv_at hl 2 rfl) ?_
        obtain ⟨Pc_2, hc, hq⟩ := hq
        refine w_calli (wf := fun _ : Unit => wd1 cI h ad I R q n) (va_runV (As := [.int x2]) (rest := []) ⟨hx, hb, hml, hown, hts⟩ (tX1_pointsOf l dC dI cI h ad _ Pc_2 x2 I R q n hc) (cwV 1 hts gX1_pagesToChange_X1_pointsOf rfl rfl rfl (by decide +kernel) ⟨Nat.le_of_ble_eq_true rfl, Nat.le_of_ble_eq_true rfl⟩) (wPreV hK hP hD (ci := 1) (q0 := 0) rfl rfl) rfl rfl hl.1 rfl (lv_room (Nat.le_of_ble_eq_true rfl)) dX1_pagesToChange_31 ⟨hcm, hsm⟩) hD hS hA (fun rc_2 u H locs hp hP hD hS => ?_)
        have hq := hq rc_2 hp
        have hP : va_P (dC, dI) vwCl (wd1 cI h ad I R q n) H := hP
        have hD : va_D A (wd1 cI h ad I R q n) := hD
        refine lv_aload_n hx hb dX1_pagesToChange_34 rfl (lv_at hl 0 rfl) ?_
        refine va_get (D := (dC, dI)) (ci := 1) (v := .int (I 3)) (C := RX1) (T := TX1) (N := 10) hx hb hts nX1_pagesToChange_X1 hown hK hP 0 rfl rfl 3 (by decide) (hts _ mX1_pagesToChange_f25) (fun _ h9 => h9) rfl dX1_pagesToChange_35 ?_
        refine lv_bipush (v := (12 : Int32)) hx hb dX1_pagesToChange_38 (by decide) ?_
        refine lv_imul hx hb dX1_pagesToChange_40 ?_
        refine lv_icmp_le (tgt := 46) hx hb dX1_pagesToChange_41 (by decide) (fun hc => ?_) (fun hc => ?_)
        · have hq := hq.1 hc
          refine lv_iconst (v := (1 : Int32)) hx hb dX1_pagesToChange_46 (by decide) ?_
          refine lv_istore_n (lv' := [(3, .int (1 : Int32)), (0, .ref h), (1, .int p1), (2, .int x2)]) hx hb dX1_pagesToChange_47 rfl hl (by decide) rfl (fun ls hl => ?_)
          exact hq _ _ ls hcm hsm hP hD hS (lv_sub hl [1, 2, 0] rfl)
        · have hq := hq.2 hc
          refine lv_iconst (v := (0 : Int32)) hx hb dX1_pagesToChange_44 (by decide) ?_
          refine W.widen (k := mc) (n := ms) hcm hsm ?_
          exact w_iret (post := fun r (u : (Nat → Int32) × (Nat → Nat → Int32) × (Nat) × (Nat)) => post r u.1 u.2.1 u.2.2.1 u.2.2.2) (wf := fun u : (Nat → Int32) × (Nat → Nat → Int32) × (Nat) × (Nat) => wd1 cI h ad u.1 u.2.1 u.2.2.1 u.2.2.2) (u := (I, R, q, n)) hx hb hr hK hP hD hS hq dX1_pagesToChange_45 hlocks
      · have hq := hq.2 hc
        refine lv_iload_n hx hb dX1_pagesToChange_14 rfl (lv_at hl 2 rfl) ?_
        refine lv_aload_n hx hb dX1_pagesToChange_15 rfl (lv_at hl 0 rfl) ?_
        refine va_get (D := (dC, dI)) (ci := 1) (v := .ref (ad 2)) (C := RX1) (T := TX1) (N := 10) hx hb hts nX1_pagesToChange_X1 hown hK hP 0 rfl rfl 2 (by decide) (hts _ mX1_pagesToChange_f15) (fun _ h9 => h9) rfl dX1_pagesToChange_16 ?_
        refine lv_iload_n hx hb dX1_pagesToChange_19 rfl (lv_at hl 3 rfl) ?_
        obtain ⟨hi_3, hq⟩ := hq
        refine va_iald (f := R 2) hx hb hK hP 2 0 rfl rfl hi_3 dX1_pagesToChange_20 ?_
        refine lv_ior hx hb dX1_pagesToChange_21 ?_
        refine lv_topi (fun x2_4 ex2_4 => ?_)
        have hq := hq x2_4 ex2_4
        refine lv_istore_n (lv' := [(2, .int x2_4), (0, .ref h), (1, .int p1), (3, .int x3)]) hx hb dX1_pagesToChange_22 rfl hl (by decide) rfl (fun ls hl => ?_)
        refine lv_iinc (v := x3 + (1 : Int32)) (lv' := [(3, .int (x3 + (1 : Int32))), (2, .int x2_4), (0, .ref h), (1, .int p1)]) hx hb dX1_pagesToChange_23 hl (k := 3) rfl rfl (by decide) rfl (fun ls hl => ?_)
        refine lv_goto (tgt := 6) hx hb dX1_pagesToChange_26 (by decide) ?_
        exact hq _ _ ls hcm hsm hP hD hS (lv_sub hl [2, 3, 1, 0] rfl)
    · intro x3 I R q n cs ss hq H locs ls hcm hsm hP hD hS hl
      refine lv_iload_n hx hb dX1_pagesToChange_48 rfl (lv_at hl 2 rfl) ?_
      refine lv_aload_n hx hb dX1_pagesToChange_49 rfl (lv_at hl 0 rfl) ?_
      refine va_get (D := (dC, dI)) (ci := 1) (v := .int (I 3)) (C := RX1) (T := TX1) (N := 10) hx hb hts nX1_pagesToChange_X1 hown hK hP 0 rfl rfl 3 (by decide) (hts _ mX1_pagesToChange_f25) (fun _ h9 => h9) rfl dX1_pagesToChange_50 ?_
      refine lv_icmp_gt (tgt := 86) hx hb dX1_pagesToChange_53 (by decide) (fun hc => ?_) (fun hc => ?_)
      · have hq := hq.1 hc
        refine lv_iconst (v := (0 : Int32)) hx hb dX1_pagesToChange_86 (by decide) ?_
        refine W.widen (k := mc) (n := ms) hcm hsm ?_
        exact w_iret (post := fun r (u : (Nat → Int32) × (Nat → Nat → Int32) × (Nat) × (Nat)) => post r u.1 u.2.1 u.2.2.1 u.2.2.2) (wf := fun u : (Nat → Int32) × (Nat → Nat → Int32) × (Nat) × (Nat) => wd1 cI h ad u.1 u.2.1 u.2.2.1 u.2.2.2) (u := (I, R, q, n)) hx hb hr hK hP hD hS hq dX1_pagesToChange_87 hlocks
      · have hq := hq.2 hc
        refine lv_aload_n hx hb dX1_pagesToChange_56 rfl (lv_at hl 0 rfl) ?_
        refine lv_iload_n hx hb dX1_pagesToChange_57 rfl (lv_at hl 2 rfl) ?_
        refine lv_aload_n hx hb dX1_pagesToChange_58 rfl (lv_at hl 0 rfl) ?_
        refine va_get (D := (dC, dI)) (ci := 1) (v := .int (I 3)) (C := RX1) (T := TX1) (N := 10) hx hb hts nX1_pagesToChange_X1 hown hK hP 0 rfl rfl 3 (by decide) (hts _ mX1_pagesToChange_f25) (fun _ h9 => h9) rfl dX1_pagesToChange_59 ?_
        refine lv_iconst (v := (1 : Int32)) hx hb dX1_pagesToChange_62 (by decide) ?_
        refine lv_iload_n hx hb dX1_pagesToChange_63 rfl (lv_at hl 1 rfl) ?_
        refine lv_ishl hx hb dX1_pagesToChange_64 ?_
        refine lv_iload_n hx hb dX1_pagesToChange_65 rfl (lv_at hl 2 rfl) ?_
        obtain ⟨mc_5, kc_5, ⟨hcm, hsm⟩, Pc_5, hc, hq⟩ := hq
        refine w_calli (wf := fun u : (Nat → Int32) × (Nat → Nat → Int32) × (Nat) × (Nat) => wd1 cI h ad u.1 u.2.1 u.2.2.1 u.2.2.2) (va_runV (As := [.int x3, .int (I 3), .int ((1 : Int32) <<< (p1 &&& 31)), .int x3]) (rest := []) ⟨hx, hb, hml, hown, hts⟩ (tX1_leastPages l dC dI cI h ad 20 _ mc_5 kc_5 Pc_5 x3 (I 3) ((1 : Int32) <<< (p1 &&& 31)) x3 I R q n hc) (cwV 4 hts gX1_pagesToChange_X1_leastPages rfl rfl rfl (by decide +kernel) ⟨Nat.le_of_ble_eq_true rfl, Nat.le_of_ble_eq_true rfl⟩) (wPreV hK hP hD (ci := 1) (q0 := 0) rfl rfl) rfl rfl hl.1 rfl (lv_room (Nat.le_of_ble_eq_true rfl)) dX1_pagesToChange_66 ⟨hcm, hsm⟩) hD hS hA (fun rc_5 u H locs hp hP hD hS => ?_)
        obtain ⟨Ic_5, Rc_5, qc_5, nc_5⟩ := u
        have hq := hq rc_5 Ic_5 Rc_5 qc_5 nc_5 hp
        have hP : va_P (dC, dI) vwCl (wd1 cI h ad Ic_5 Rc_5 qc_5 nc_5) H := hP
        have hD : va_D A (wd1 cI h ad Ic_5 Rc_5 qc_5 nc_5) := hD
        refine lv_istore (lv' := [(4, .int rc_5), (0, .ref h), (1, .int p1), (3, .int x3)]) hx hb dX1_pagesToChange_69 hl (by decide) rfl (fun ls hl => ?_)
        refine lv_iload hx hb dX1_pagesToChange_71 (lv_at hl 0 rfl) ?_
        refine lv_iconst (v := (-1 : Int32)) hx hb dX1_pagesToChange_73 (by decide) ?_
        refine lv_icmp_eq (tgt := 80) hx hb dX1_pagesToChange_74 (by decide) (fun hc => ?_) (fun hc => ?_)
        · have hq := hq.1 hc
          refine lv_iinc (v := x3 + (1 : Int32)) (lv' := [(3, .int (x3 + (1 : Int32))), (4, .int rc_5), (0, .ref h), (1, .int p1)]) hx hb dX1_pagesToChange_80 hl (k := 3) rfl rfl (by decide) rfl (fun ls hl => ?_)
          refine lv_goto (tgt := 48) hx hb dX1_pagesToChange_83 (by decide) ?_
          exact hq _ _ ls hcm hsm hP hD hS (lv_sub hl [2, 3, 0] rfl)
        · have hq := hq.2 hc
          refine lv_iload hx hb dX1_pagesToChange_77 (lv_at hl 0 rfl) ?_
          refine W.widen (k := mc) (n := ms) hcm hsm ?_
          exact w_iret (post := fun r (u : (Nat → Int32) × (Nat → Nat → Int32) × (Nat) × (Nat)) => post r u.1 u.2.1 u.2.2.1 u.2.2.2) (wf := fun u : (Nat → Int32) × (Nat → Nat → Int32) × (Nat) × (Nat) => wd1 cI h ad u.1 u.2.1 u.2.2.1 u.2.2.2) (u := (Ic_5, Rc_5, qc_5, nc_5)) hx hb hr hK hP hD hS hq dX1_pagesToChange_79 hlocks
  have hl := lv_entry ([.ref h, .int p1]) (n := 5) (Nat.le_of_ble_eq_true rfl)
  rw [lg_entry_eq]
  generalize (lg_sl ([.ref h, .int p1]) ++ List.replicate (5 - (lg_sl ([.ref h, .int p1])).length) Slot.unset).toArray = ls at hl ⊢
  have hl : lv_has ls 5 [(0, .ref h), (1, .int p1)] := hl
  have hcm : 0 ≤ mc := Nat.zero_le _
  have hsm : 0 ≤ ms := Nat.zero_le _
  refine lv_iconst (v := (1 : Int32)) hx hb dX1_pagesToChange_0 (by decide) ?_
  refine lv_iload_n hx hb dX1_pagesToChange_1 rfl (lv_at hl 1 rfl) ?_
  refine lv_ishl hx hb dX1_pagesToChange_2 ?_
  refine lv_topi (fun x2_1 ex2_1 => ?_)
  have hq := hq x2_1 ex2_1
  refine lv_istore_n (lv' := [(2, .int x2_1), (0, .ref h), (1, .int p1)]) hx hb dX1_pagesToChange_3 rfl hl (by decide) rfl (fun ls hl => ?_)
  refine lv_iconst (v := (0 : Int32)) hx hb dX1_pagesToChange_4 (by decide) ?_
  refine lv_istore_n (lv' := [(3, .int (0 : Int32)), (2, .int x2_1), (0, .ref h), (1, .int p1)]) hx hb dX1_pagesToChange_5 rfl hl (by decide) rfl (fun ls hl => ?_)
  exact hq _ _ hZ _ _ ls hcm hsm hP hD hS (lv_sub hl [2, 3, 1, 0] rfl)
def zX1_fillPage (Y : ((Nat → Int32) → (Nat → Nat → Int32) → Nat → Nat → Prop) → Int32 → Int32 → Int32 → (Nat → Int32) → (Nat → Nat → Int32) → Nat → Nat → Prop) (post : (Nat → Int32) → (Nat → Nat → Int32) → Nat → Nat → Prop) (p1 : Int32) (p2 : Int32) (p3 : Int32) (X29 : Int32 → (Nat → Int32) → (Nat → Nat → Int32) → Nat → Nat → Prop) (X68 : Int32 → (Nat → Int32) → (Nat → Nat → Int32) → Nat → Nat → Prop) : Prop :=
  (∀ (k0 : Int32) (I : Nat → Int32) (R : Nat → Nat → Int32) (q : Nat) (n : Nat), (((k0 = 0) → (X68 p3 I R q n)) ∧ ((¬ k0 = 0) → (∃ Pc_1 : Int32 → (Nat → Int32) → (Nat → Nat → Int32) → Nat → Nat → Prop, qX1_pagesForA Pc_1 ((I 6) &&& (p1 ^^^ (-1 : Int32))) I R q n ∧ (∀ (rc_1 : Int32) (Ic_1 : Nat → Int32) (Rc_1 : Nat → Nat → Int32) (qc_1 : Nat) (nc_1 : Nat), Pc_1 rc_1 Ic_1 Rc_1 qc_1 nc_1 → ((((Ic_1 7) < rc_1) → (X68 p3 Ic_1 Rc_1 qc_1 nc_1)) ∧ ((¬ (Ic_1 7) < rc_1) → (X68 p3 (va_up (va_up Ic_1 8 p1) 9 p2) Rc_1 qc_1 nc_1))))))) → X29 k0 I R q n) ∧
  (∀ (x5 : Int32) (I : Nat → Int32) (R : Nat → Nat → Int32) (q : Nat) (n : Nat), ((((I 1) ≤ x5) → (post I R q n)) ∧ ((¬ (I 1) ≤ x5) → ((((((I 6) >>> (x5 &&& 31)) &&& (1 : Int32)) = 0) → (X68 (x5 + (1 : Int32)) I R q n)) ∧ ((¬ (((I 6) >>> (x5 &&& 31)) &&& (1 : Int32)) = 0) → (vp_in x5 14 ∧ ((((12 : Int32) < (p2 + (R 0 x5.toNatClampNeg))) → (X68 (x5 + (1 : Int32)) I R q n)) ∧ ((¬ (12 : Int32) < (p2 + (R 0 x5.toNatClampNeg))) → (∃ Pc_3 : (Nat → Int32) → (Nat → Nat → Int32) → Nat → Nat → Prop, Y Pc_3 (p1 ||| ((1 : Int32) <<< (x5 &&& 31))) (p2 + (R 0 x5.toNatClampNeg)) (x5 + (1 : Int32)) I R q n ∧ (∀ (Ic_3 : Nat → Int32) (Rc_3 : Nat → Nat → Int32) (qc_3 : Nat) (nc_3 : Nat), Pc_3 Ic_3 Rc_3 qc_3 nc_3 → (X68 (x5 + (1 : Int32)) Ic_3 Rc_3 qc_3 nc_3)))))))))) → X68 x5 I R q n)
def qX1_fillPage_29 (Y : ((Nat → Int32) → (Nat → Nat → Int32) → Nat → Nat → Prop) → Int32 → Int32 → Int32 → (Nat → Int32) → (Nat → Nat → Int32) → Nat → Nat → Prop) (post : (Nat → Int32) → (Nat → Nat → Int32) → Nat → Nat → Prop) (p1 : Int32) (p2 : Int32) (p3 : Int32) (k0 : Int32) (I : Nat → Int32) (R : Nat → Nat → Int32) (q : Nat) (n : Nat) : Prop := ∀ (X29 : Int32 → (Nat → Int32) → (Nat → Nat → Int32) → Nat → Nat → Prop) (X68 : Int32 → (Nat → Int32) → (Nat → Nat → Int32) → Nat → Nat → Prop), zX1_fillPage Y post p1 p2 p3 X29 X68 → X29 k0 I R q n
def qX1_fillPage_68 (Y : ((Nat → Int32) → (Nat → Nat → Int32) → Nat → Nat → Prop) → Int32 → Int32 → Int32 → (Nat → Int32) → (Nat → Nat → Int32) → Nat → Nat → Prop) (post : (Nat → Int32) → (Nat → Nat → Int32) → Nat → Nat → Prop) (p1 : Int32) (p2 : Int32) (p3 : Int32) (x5 : Int32) (I : Nat → Int32) (R : Nat → Nat → Int32) (q : Nat) (n : Nat) : Prop := ∀ (X29 : Int32 → (Nat → Int32) → (Nat → Nat → Int32) → Nat → Nat → Prop) (X68 : Int32 → (Nat → Int32) → (Nat → Nat → Int32) → Nat → Nat → Prop), zX1_fillPage Y post p1 p2 p3 X29 X68 → X68 x5 I R q n
theorem kX1_fillPage_29 {Y : ((Nat → Int32) → (Nat → Nat → Int32) → Nat → Nat → Prop) → Int32 → Int32 → Int32 → (Nat → Int32) → (Nat → Nat → Int32) → Nat → Nat → Prop} {post : (Nat → Int32) → (Nat → Nat → Int32) → Nat → Nat → Prop} {p1 : Int32} {p2 : Int32} {p3 : Int32} {k0 : Int32} {I : Nat → Int32} {R : Nat → Nat → Int32} {q : Nat} {n : Nat} (h : ((k0 = 0) → (qX1_fillPage_68 Y post p1 p2 p3 p3 I R q n)) ∧ ((¬ k0 = 0) → (∃ Pc_1 : Int32 → (Nat → Int32) → (Nat → Nat → Int32) → Nat → Nat → Prop, qX1_pagesForA Pc_1 ((I 6) &&& (p1 ^^^ (-1 : Int32))) I R q n ∧ (∀ (rc_1 : Int32) (Ic_1 : Nat → Int32) (Rc_1 : Nat → Nat → Int32) (qc_1 : Nat) (nc_1 : Nat), Pc_1 rc_1 Ic_1 Rc_1 qc_1 nc_1 → ((((Ic_1 7) < rc_1) → (qX1_fillPage_68 Y post p1 p2 p3 p3 Ic_1 Rc_1 qc_1 nc_1)) ∧ ((¬ (Ic_1 7) < rc_1) → (qX1_fillPage_68 Y post p1 p2 p3 p3 (va_up (va_up Ic_1 8 p1) 9 p2) Rc_1 qc_1 nc_1))))))) : qX1_fillPage_29 Y post p1 p2 p3 k0 I R q n := by
  intro Z29 Z68 hcl
  refine hcl.1 k0 I R q n ?_
  refine ⟨fun c => ?_, fun c => ?_⟩
  · have h := h.1 c
    exact h _ _ hcl
  · have h := h.2 c
    obtain ⟨P, h1, h2⟩ := h
    refine ⟨P, h1, fun b0 b1 b2 b3 b4 hp => ?_⟩
    have h := h2 b0 b1 b2 b3 b4 hp
    refine ⟨fun c => ?_, fun c => ?_⟩
    · have h := h.1 c
      exact h _ _ hcl
    · have h := h.2 c
      exact h _ _ hcl
theorem kX1_fillPage_68 {Y : ((Nat → Int32) → (Nat → Nat → Int32) → Nat → Nat → Prop) → Int32 → Int32 → Int32 → (Nat → Int32) → (Nat → Nat → Int32) → Nat → Nat → Prop} {post : (Nat → Int32) → (Nat → Nat → Int32) → Nat → Nat → Prop} {p1 : Int32} {p2 : Int32} {p3 : Int32} {x5 : Int32} {I : Nat → Int32} {R : Nat → Nat → Int32} {q : Nat} {n : Nat} (h : (((I 1) ≤ x5) → (post I R q n)) ∧ ((¬ (I 1) ≤ x5) → ((((((I 6) >>> (x5 &&& 31)) &&& (1 : Int32)) = 0) → (qX1_fillPage_68 Y post p1 p2 p3 (x5 + (1 : Int32)) I R q n)) ∧ ((¬ (((I 6) >>> (x5 &&& 31)) &&& (1 : Int32)) = 0) → (vp_in x5 14 ∧ ((((12 : Int32) < (p2 + (R 0 x5.toNatClampNeg))) → (qX1_fillPage_68 Y post p1 p2 p3 (x5 + (1 : Int32)) I R q n)) ∧ ((¬ (12 : Int32) < (p2 + (R 0 x5.toNatClampNeg))) → (∃ Pc_3 : (Nat → Int32) → (Nat → Nat → Int32) → Nat → Nat → Prop, Y Pc_3 (p1 ||| ((1 : Int32) <<< (x5 &&& 31))) (p2 + (R 0 x5.toNatClampNeg)) (x5 + (1 : Int32)) I R q n ∧ (∀ (Ic_3 : Nat → Int32) (Rc_3 : Nat → Nat → Int32) (qc_3 : Nat) (nc_3 : Nat), Pc_3 Ic_3 Rc_3 qc_3 nc_3 → (qX1_fillPage_68 Y post p1 p2 p3 (x5 + (1 : Int32)) Ic_3 Rc_3 qc_3 nc_3)))))))))) : qX1_fillPage_68 Y post p1 p2 p3 x5 I R q n := by
  intro Z29 Z68 hcl
  refine hcl.2 x5 I R q n ?_
  refine ⟨fun c => ?_, fun c => ?_⟩
  · have h := h.1 c
    exact h
  · have h := h.2 c
    refine ⟨fun c => ?_, fun c => ?_⟩
    · have h := h.1 c
      exact h _ _ hcl
    · have h := h.2 c
      refine ⟨h.1, ?_⟩
      have h := h.2
      refine ⟨fun c => ?_, fun c => ?_⟩
      · have h := h.1 c
        exact h _ _ hcl
      · have h := h.2 c
        obtain ⟨P, h1, h2⟩ := h
        refine ⟨P, h1, fun b0 b1 b2 b3 hp => ?_⟩
        have h := h2 b0 b1 b2 b3 hp
        exact h _ _ hcl
def qX1_fillPage : Nat → ((Nat → Int32) → (Nat → Nat → Int32) → Nat → Nat → Prop) → Int32 → Int32 → Int32 → (Nat → Int32) → (Nat → Nat → Int32) → Nat → Nat → Prop
  | 0, _, _, _, _, _, _, _, _ => False
  | d + 1, post, p1, p2, p3, I, R, q, n => (((I 9) < p2) → (qX1_fillPage_29 (qX1_fillPage d) post p1 p2 p3 (1 : Int32) I R q n)) ∧ ((¬ (I 9) < p2) → (((¬ p2 = (I 9)) → (qX1_fillPage_29 (qX1_fillPage d) post p1 p2 p3 (0 : Int32) I R q n)) ∧ ((p2 = (I 9)) → ((((I 8) ≤ p1) → (qX1_fillPage_29 (qX1_fillPage d) post p1 p2 p3 (0 : Int32) I R q n)) ∧ ((¬ (I 8) ≤ p1) → (qX1_fillPage_29 (qX1_fillPage d) post p1 p2 p3 (1 : Int32) I R q n))))))
theorem mX1_fillPage_f70 : Cond.fieldLink RX1 70 "YearBook$Pages" "fullestPoints" "I" ∈ wsX1_fillPage := by decide +kernel
theorem nX1_fillPage_X1 : ∀ w ∈ u_ws RX1 TX1 10, w ∈ wsX1_fillPage := by decide +kernel
theorem mX1_fillPage_f67 : Cond.fieldLink RX1 67 "YearBook$Pages" "fullest" "I" ∈ wsX1_fillPage := by decide +kernel
theorem mX1_fillPage_f61 : Cond.fieldLink RX1 61 "YearBook$Pages" "waiting" "I" ∈ wsX1_fillPage := by decide +kernel
theorem mX1_fillPage_f64 : Cond.fieldLink RX1 64 "YearBook$Pages" "pagesForRest" "I" ∈ wsX1_fillPage := by decide +kernel
theorem mX1_fillPage_f21 : Cond.fieldLink RX1 21 "YearBook$Pages" "pictures" "I" ∈ wsX1_fillPage := by decide +kernel
theorem mX1_fillPage_f9 : Cond.fieldLink RX1 9 "YearBook$Pages" "sizes" "[I" ∈ wsX1_fillPage := by decide +kernel
set_option maxHeartbeats 4000000 in
set_option maxRecDepth 100000 in
theorem tX1_fillPage (l : Launch) (dC : Nat → ClassId) (dI : Nat → Nat → Nat) (cI : ClassId) (h : Nat) (ad : Nat → Nat) : ∀ (d : Nat) (sz : Nat) (post : (Nat → Int32) → (Nat → Nat → Int32) → Nat → Nat → Prop) (p1 : Int32) (p2 : Int32) (p3 : Int32) (I : Nat → Int32) (R : Nat → Nat → Int32) (q : Nat) (n : Nat) (hq : qX1_fillPage d post p1 p2 p3 I R q n), Met l yX1_fillPage wsX1_fillPage ({ frames := 4 + d, cells := 0, slots := 0, locals := 129 + d * 25 } : Room) (va_Pc [.ref h, .int p1, .int p2, .int p3] (wPre (dC, dI) vwCl [(cI, .int)] (wd1 cI h ad I R q n) sz)) (va_Qv (fun (u : (Nat → Int32) × (Nat → Nat → Int32) × (Nat) × (Nat)) => post u.1 u.2.1 u.2.2.1 u.2.2.2) (wAt (dC, dI) vwCl [(cI, .int)] (va_A (wd1 cI h ad I R q n) sz) (fun u : (Nat → Int32) × (Nat → Nat → Int32) × (Nat) × (Nat) => wd1 cI h ad u.1 u.2.1 u.2.2.1 u.2.2.2)) (va_A (wd1 cI h ad I R q n) sz)) 0 0 (va_A (wd1 cI h ad I R q n) sz) := by
  intro d
  induction d with
  | zero => intro sz post p1 p2 p3 I R q n hq; exact False.elim hq
  | succ d ih =>
    intro sz post p1 p2 p3 I R q n hq
    unfold qX1_fillPage at hq
    refine Met.ofW (cc := cX1_fillPage) (maxL := 6) (ret := none) (by decide) rfl ?_
    intro p e s m args below meth c s₁ B hml hv
    obtain ⟨rfl, hsz, hP, hK, hD0⟩ := hv
    have hx := B.exec
    have hb := B.bytes
    have hr := B.returns
    have hts := atoms_spec (ws := wsX1_fillPage) B.pre
    have hown : s.vm.findClass RX1 = some m.cls := findClass_of_methodNamed B.named
    have hlocks := B.notSynchronized
    subst hsz
    have hD := hD0.self (sz := s.heap.size)
    generalize hAe : va_A (wd1 cI h ad I R q n) s.heap.size = A at hD ⊢
    have hA : ∀ q : Nat, s.heap.size ≤ q → A q := fun q h => by rw [← hAe]; exact Or.inr h
    have hS : va_S A s.heap s.heap [] := va_S.rf
    have hZ : zX1_fillPage (qX1_fillPage d) post p1 p2 p3
        (fun (k0 : Int32) (I : Nat → Int32) (R : Nat → Nat → Int32) (q : Nat) (n : Nat) => ∀ (H : Heap) (locs : List Loc) (ls : Array Slot), va_P (dC, dI) vwCl (wd1 cI h ad I R q n) H → va_D A (wd1 cI h ad I R q n) → va_S A s.heap H locs → lv_has ls 6 [(0, .ref h), (1, .int p1), (2, .int p2), (3, .int p3)] → W p l e (headSpec wsX1_fillPage ({ frames := 4 + (d + 1), cells := 0, slots := 0, locals := 129 + (d + 1) * 25 } : Room)).room s m ([.ref h, .int p1, .int p2, .int p3] : List Value).toArray below meth c H locs 0 0 (MQ below (va_Qv (fun (u : (Nat → Int32) × (Nat → Nat → Int32) × (Nat) × (Nat)) => post u.1 u.2.1 u.2.2.1 u.2.2.2) (wAt (dC, dI) vwCl [(cI, .int)] A (fun u : (Nat → Int32) × (Nat → Nat → Int32) × (Nat) × (Nat) => wd1 cI h ad u.1 u.2.1 u.2.2.1 u.2.2.2)) A) ([.ref h, .int p1, .int p2, .int p3] : List Value).toArray s 0 0 A) (F0 m 29 ls [.int k0]))
        (fun (x5 : Int32) (I : Nat → Int32) (R : Nat → Nat → Int32) (q : Nat) (n : Nat) => ∀ (H : Heap) (locs : List Loc) (ls : Array Slot), va_P (dC, dI) vwCl (wd1 cI h ad I R q n) H → va_D A (wd1 cI h ad I R q n) → va_S A s.heap H locs → lv_has ls 6 [(0, .ref h), (1, .int p1), (2, .int p2), (5, .int x5)] → W p l e (headSpec wsX1_fillPage ({ frames := 4 + (d + 1), cells := 0, slots := 0, locals := 129 + (d + 1) * 25 } : Room)).room s m ([.ref h, .int p1, .int p2, .int p3] : List Value).toArray below meth c H locs 0 0 (MQ below (va_Qv (fun (u : (Nat → Int32) × (Nat → Nat → Int32) × (Nat) × (Nat)) => post u.1 u.2.1 u.2.2.1 u.2.2.2) (wAt (dC, dI) vwCl [(cI, .int)] A (fun u : (Nat → Int32) × (Nat → Nat → Int32) × (Nat) × (Nat) => wd1 cI h ad u.1 u.2.1 u.2.2.1 u.2.2.2)) A) ([.ref h, .int p1, .int p2, .int p3] : List Value).toArray s 0 0 A) (F0 m 68 ls [])) := by
      refine ⟨?_, ?_⟩
      · intro k0 I R q n hq H locs ls hP hD hS hl
        refine lv_istore (lv' := [(4, .int k0), (0, .ref h), (1, .int p1), (2, .int p2), (3, .int p3)]) hx hb dX1_fillPage_29 hl (by decide) rfl (fun ls hl => ?_)
        refine lv_iload hx hb dX1_fillPage_31 (lv_at hl 0 rfl) ?_
        refine lv_if_eq (tgt := 65) hx hb dX1_fillPage_33 (by decide) (fun hc => ?_) (fun hc => ?_)
        · have hq := hq.1 hc
          refine lv_iload_n hx hb dX1_fillPage_65 rfl (lv_at hl 4 rfl) ?_
          refine lv_istore (lv' := [(5, .int p3), (4, .int k0), (0, .ref h), (1, .int p1), (2, .int p2), (3, .int p3)]) hx hb dX1_fillPage_66 hl (by decide) rfl (fun ls hl => ?_)
          exact hq _ _ ls hP hD hS (lv_sub hl [2, 3, 4, 0] rfl)
        · have hq := hq.2 hc
          refine lv_aload_n hx hb dX1_fillPage_36 rfl (lv_at hl 1 rfl) ?_
          refine lv_aload_n hx hb dX1_fillPage_37 rfl (lv_at hl 1 rfl) ?_
          refine va_get (D := (dC, dI)) (ci := 1) (v := .int (I 6)) (C := RX1) (T := TX1) (N := 10) hx hb hts nX1_fillPage_X1 hown hK hP 0 rfl rfl 6 (by decide) (hts _ mX1_fillPage_f61) (fun _ h9 => h9) rfl dX1_fillPage_38 ?_
          refine lv_iload_n hx hb dX1_fillPage_41 rfl (lv_at hl 2 rfl) ?_
          refine lv_iconst (v := (-1 : Int32)) hx hb dX1_fillPage_42 (by decide) ?_
          refine lv_ixor hx hb dX1_fillPage_43 ?_
          refine lv_iand hx hb dX1_fillPage_44 ?_
          obtain ⟨Pc_1, hc, hq⟩ := hq
          refine w_calli (wf := fun u : (Nat → Int32) × (Nat → Nat → Int32) × (Nat) × (Nat) => wd1 cI h ad u.1 u.2.1 u.2.2.1 u.2.2.2) (va_runV (As := [.int ((I 6) &&& (p1 ^^^ (-1 : Int32)))]) (rest := []) ⟨hx, hb, hml, hown, hts⟩ (tX1_pagesForA l dC dI cI h ad _ Pc_1 ((I 6) &&& (p1 ^^^ (-1 : Int32))) I R q n hc) (cwV 1 hts gX1_fillPage_X1_pagesFor rfl rfl rfl (by decide +kernel) ⟨by show 3 + 1 ≤ 4 + (d + 1); omega, by show 8 + (3 + 11) + 107 ≤ 129 + (d + 1) * 25; omega⟩) (wPreV hK hP hD (ci := 1) (q0 := 0) rfl rfl) rfl rfl hl.1 rfl (lv_room (Nat.le_of_ble_eq_true rfl)) dX1_fillPage_45 ⟨Nat.le_of_ble_eq_true rfl, Nat.le_of_ble_eq_true rfl⟩) hD hS hA (fun rc_1 u H locs hp hP hD hS => ?_)
          obtain ⟨Ic_1, Rc_1, qc_1, nc_1⟩ := u
          have hq := hq rc_1 Ic_1 Rc_1 qc_1 nc_1 hp
          have hP : va_P (dC, dI) vwCl (wd1 cI h ad Ic_1 Rc_1 qc_1 nc_1) H := hP
          have hD : va_D A (wd1 cI h ad Ic_1 Rc_1 qc_1 nc_1) := hD
          refine lv_aload_n hx hb dX1_fillPage_48 rfl (lv_at hl 1 rfl) ?_
          refine va_get (D := (dC, dI)) (ci := 1) (v := .int (Ic_1 7)) (C := RX1) (T := TX1) (N := 10) hx hb hts nX1_fillPage_X1 hown hK hP 0 rfl rfl 7 (by decide) (hts _ mX1_fillPage_f64) (fun _ h9 => h9) rfl dX1_fillPage_49 ?_
          refine lv_icmp_gt (tgt := 65) hx hb dX1_fillPage_52 (by decide) (fun hc => ?_) (fun hc => ?_)
          · have hq := hq.1 hc
            refine lv_iload_n hx hb dX1_fillPage_65 rfl (lv_at hl 4 rfl) ?_
            refine lv_istore (lv' := [(5, .int p3), (4, .int k0), (0, .ref h), (1, .int p1), (2, .int p2), (3, .int p3)]) hx hb dX1_fillPage_66 hl (by decide) rfl (fun ls hl => ?_)
            exact hq _ _ ls hP hD hS (lv_sub hl [2, 3, 4, 0] rfl)
          · have hq := hq.2 hc
            refine lv_aload_n hx hb dX1_fillPage_55 rfl (lv_at hl 1 rfl) ?_
            refine lv_iload_n hx hb dX1_fillPage_56 rfl (lv_at hl 2 rfl) ?_
            refine va_put (D := (dC, dI)) (ci := 1) (v := .int p1) (ty := .int) (C := RX1) (T := TX1) (N := 10) hx hb hts nX1_fillPage_X1 tyX1 tyX1_ok nmX1 hown hK hP hD hS 0 rfl rfl 8 (by decide) (hts _ mX1_fillPage_f67) (fun _ h9 => h9) rfl (by decide +kernel) rfl rfl (Nat.le_of_ble_eq_true rfl) dX1_fillPage_57 (fun H locs hP hD hS => ?_)
            rw [wd1_I8] at hP hD
            refine lv_aload_n hx hb dX1_fillPage_60 rfl (lv_at hl 1 rfl) ?_
            refine lv_iload_n hx hb dX1_fillPage_61 rfl (lv_at hl 3 rfl) ?_
            refine va_put (D := (dC, dI)) (ci := 1) (v := .int p2) (ty := .int) (C := RX1) (T := TX1) (N := 10) hx hb hts nX1_fillPage_X1 tyX1 tyX1_ok nmX1 hown hK hP hD hS 0 rfl rfl 9 (by decide) (hts _ mX1_fillPage_f70) (fun _ h9 => h9) rfl (by decide +kernel) rfl rfl (Nat.le_of_ble_eq_true rfl) dX1_fillPage_62 (fun H locs hP hD hS => ?_)
            rw [wd1_I9] at hP hD
            refine lv_iload_n hx hb dX1_fillPage_65 rfl (lv_at hl 4 rfl) ?_
            refine lv_istore (lv' := [(5, .int p3), (4, .int k0), (0, .ref h), (1, .int p1), (2, .int p2), (3, .int p3)]) hx hb dX1_fillPage_66 hl (by decide) rfl (fun ls hl => ?_)
            exact hq _ _ ls hP hD hS (lv_sub hl [2, 3, 4, 0] rfl)
      · intro x5 I R q n hq H locs ls hP hD hS hl
        refine lv_iload hx hb dX1_fillPage_68 (lv_at hl 3 rfl) ?_
        refine lv_aload_n hx hb dX1_fillPage_70 rfl (lv_at hl 0 rfl) ?_
        refine va_get (D := (dC, dI)) (ci := 1) (v := .int (I 1)) (C := RX1) (T := TX1) (N := 10) hx hb hts nX1_fillPage_X1 hown hK hP 0 rfl rfl 1 (by decide) (hts _ mX1_fillPage_f21) (fun _ h9 => h9) rfl dX1_fillPage_71 ?_
        refine lv_icmp_ge (tgt := 132) hx hb dX1_fillPage_74 (by decide) (fun hc => ?_) (fun hc => ?_)
        · have hq := hq.1 hc
          exact w_vret (post := fun (u : (Nat → Int32) × (Nat → Nat → Int32) × (Nat) × (Nat)) => post u.1 u.2.1 u.2.2.1 u.2.2.2) (wf := fun u : (Nat → Int32) × (Nat → Nat → Int32) × (Nat) × (Nat) => wd1 cI h ad u.1 u.2.1 u.2.2.1 u.2.2.2) (u := (I, R, q, n)) hx hb hr hK hP hD hS hq dX1_fillPage_132 hlocks
        · have hq := hq.2 hc
          refine lv_aload_n hx hb dX1_fillPage_77 rfl (lv_at hl 0 rfl) ?_
          refine va_get (D := (dC, dI)) (ci := 1) (v := .int (I 6)) (C := RX1) (T := TX1) (N := 10) hx hb hts nX1_fillPage_X1 hown hK hP 0 rfl rfl 6 (by decide) (hts _ mX1_fillPage_f61) (fun _ h9 => h9) rfl dX1_fillPage_78 ?_
          refine lv_iload hx hb dX1_fillPage_81 (lv_at hl 3 rfl) ?_
          refine lv_ishr hx hb dX1_fillPage_83 ?_
          refine lv_iconst (v := (1 : Int32)) hx hb dX1_fillPage_84 (by decide) ?_
          refine lv_iand hx hb dX1_fillPage_85 ?_
          refine lv_if_eq (tgt := 126) hx hb dX1_fillPage_86 (by decide) (fun hc => ?_) (fun hc => ?_)
          · have hq := hq.1 hc
            refine lv_iinc (v := x5 + (1 : Int32)) (lv' := [(5, .int (x5 + (1 : Int32))), (0, .ref h), (1, .int p1), (2, .int p2)]) hx hb dX1_fillPage_126 hl (k := 3) rfl rfl (by decide) rfl (fun ls hl => ?_)
            refine lv_goto (tgt := 68) hx hb dX1_fillPage_129 (by decide) ?_
            exact hq _ _ ls hP hD hS (lv_sub hl [1, 2, 3, 0] rfl)
          · have hq := hq.2 hc
            refine lv_iload_n hx hb dX1_fillPage_89 rfl (lv_at hl 2 rfl) ?_
            refine lv_aload_n hx hb dX1_fillPage_90 rfl (lv_at hl 0 rfl) ?_
            refine va_get (D := (dC, dI)) (ci := 1) (v := .ref (ad 0)) (C := RX1) (T := TX1) (N := 10) hx hb hts nX1_fillPage_X1 hown hK hP 0 rfl rfl 0 (by decide) (hts _ mX1_fillPage_f9) (fun _ h9 => h9) rfl dX1_fillPage_91 ?_
            refine lv_iload hx hb dX1_fillPage_94 (lv_at hl 3 rfl) ?_
            obtain ⟨hi_2, hq⟩ := hq
            refine va_iald (f := R 0) hx hb hK hP 1 0 rfl rfl hi_2 dX1_fillPage_96 ?_
            refine lv_iadd hx hb dX1_fillPage_97 ?_
            refine lv_bipush (v := (12 : Int32)) hx hb dX1_fillPage_98 (by decide) ?_
            refine lv_icmp_gt (tgt := 126) hx hb dX1_fillPage_100 (by decide) (fun hc => ?_) (fun hc => ?_)
            · have hq := hq.1 hc
              refine lv_iinc (v := x5 + (1 : Int32)) (lv' := [(5, .int (x5 + (1 : Int32))), (0, .ref h), (1, .int p1), (2, .int p2)]) hx hb dX1_fillPage_126 hl (k := 3) rfl rfl (by decide) rfl (fun ls hl => ?_)
              refine lv_goto (tgt := 68) hx hb dX1_fillPage_129 (by decide) ?_
              exact hq _ _ ls hP hD hS (lv_sub hl [1, 2, 3, 0] rfl)
            · have hq := hq.2 hc
              refine lv_aload_n hx hb dX1_fillPage_103 rfl (lv_at hl 0 rfl) ?_
              refine lv_iload_n hx hb dX1_fillPage_104 rfl (lv_at hl 1 rfl) ?_
              refine lv_iconst (v := (1 : Int32)) hx hb dX1_fillPage_105 (by decide) ?_
              refine lv_iload hx hb dX1_fillPage_106 (lv_at hl 3 rfl) ?_
              refine lv_ishl hx hb dX1_fillPage_108 ?_
              refine lv_ior hx hb dX1_fillPage_109 ?_
              refine lv_iload_n hx hb dX1_fillPage_110 rfl (lv_at hl 2 rfl) ?_
              refine lv_aload_n hx hb dX1_fillPage_111 rfl (lv_at hl 0 rfl) ?_
              refine va_get (D := (dC, dI)) (ci := 1) (v := .ref (ad 0)) (C := RX1) (T := TX1) (N := 10) hx hb hts nX1_fillPage_X1 hown hK hP 0 rfl rfl 0 (by decide) (hts _ mX1_fillPage_f9) (fun _ h9 => h9) rfl dX1_fillPage_112 ?_
              refine lv_iload hx hb dX1_fillPage_115 (lv_at hl 3 rfl) ?_
              refine va_iald (f := R 0) hx hb hK hP 1 0 rfl rfl hi_2 dX1_fillPage_117 ?_
              refine lv_iadd hx hb dX1_fillPage_118 ?_
              refine lv_iload hx hb dX1_fillPage_119 (lv_at hl 3 rfl) ?_
              refine lv_iconst (v := (1 : Int32)) hx hb dX1_fillPage_121 (by decide) ?_
              refine lv_iadd hx hb dX1_fillPage_122 ?_
              obtain ⟨Pc_3, hc, hq⟩ := hq
              refine w_callv (wf := fun u : (Nat → Int32) × (Nat → Nat → Int32) × (Nat) × (Nat) => wd1 cI h ad u.1 u.2.1 u.2.2.1 u.2.2.2) (va_runV (As := [.int (p1 ||| ((1 : Int32) <<< (x5 &&& 31))), .int (p2 + (R 0 x5.toNatClampNeg)), .int (x5 + (1 : Int32))]) (rest := []) ⟨hx, hb, hml, hown, hts⟩ (ih _ Pc_3 (p1 ||| ((1 : Int32) <<< (x5 &&& 31))) (p2 + (R 0 x5.toNatClampNeg)) (x5 + (1 : Int32)) I R q n hc) (cwV 3 hts gX1_fillPage_X1_fillPage rfl rfl rfl (by decide +kernel) ⟨by show 4 + d + 1 ≤ 4 + (d + 1); omega, by show 8 + (6 + 11) + (129 + d * 25) ≤ 129 + (d + 1) * 25; omega⟩) (wPreV hK hP hD (ci := 1) (q0 := 0) rfl rfl) rfl rfl hl.1 rfl (lv_room (Nat.le_of_ble_eq_true rfl)) dX1_fillPage_123 ⟨Nat.le_of_ble_eq_true rfl, Nat.le_of_ble_eq_true rfl⟩) hD hS hA (fun u H locs hp hP hD hS => ?_)
              obtain ⟨Ic_3, Rc_3, qc_3, nc_3⟩ := u
              have hq := hq Ic_3 Rc_3 qc_3 nc_3 hp
              have hP : va_P (dC, dI) vwCl (wd1 cI h ad Ic_3 Rc_3 qc_3 nc_3) H := hP
              have hD : va_D A (wd1 cI h ad Ic_3 Rc_3 qc_3 nc_3) := hD
              refine lv_iinc (v := x5 + (1 : Int32)) (lv' := [(5, .int (x5 + (1 : Int32))), (0, .ref h), (1, .int p1), (2, .int p2)]) hx hb dX1_fillPage_126 hl (k := 3) rfl rfl (by decide) rfl (fun ls hl => ?_)
              refine lv_goto (tgt := 68) hx hb dX1_fillPage_129 (by decide) ?_
              exact hq _ _ ls hP hD hS (lv_sub hl [1, 2, 3, 0] rfl)
    have hl := lv_entry ([.ref h, .int p1, .int p2, .int p3]) (n := 6) (Nat.le_of_ble_eq_true rfl)
    rw [lg_entry_eq]
    generalize (lg_sl ([.ref h, .int p1, .int p2, .int p3]) ++ List.replicate (6 - (lg_sl ([.ref h, .int p1, .int p2, .int p3])).length) Slot.unset).toArray = ls at hl ⊢
    have hl : lv_has ls 6 [(0, .ref h), (1, .int p1), (2, .int p2), (3, .int p3)] := hl
    refine lv_iload_n hx hb dX1_fillPage_0 rfl (lv_at hl 2 rfl) ?_
    refine lv_aload_n hx hb dX1_fillPage_1 rfl (lv_at hl 0 rfl) ?_
    refine va_get (D := (dC, dI)) (ci := 1) (v := .int (I 9)) (C := RX1) (T := TX1) (N := 10) hx hb hts nX1_fillPage_X1 hown hK hP 0 rfl rfl 9 (by decide) (hts _ mX1_fillPage_f70) (fun _ h9 => h9) rfl dX1_fillPage_2 ?_
    refine lv_icmp_gt (tgt := 24) hx hb dX1_fillPage_5 (by decide) (fun hc => ?_) (fun hc => ?_)
    · have hq := hq.1 hc
      refine lv_iconst (v := (1 : Int32)) hx hb dX1_fillPage_24 (by decide) ?_
      refine lv_goto (tgt := 29) hx hb dX1_fillPage_25 (by decide) ?_
      exact hq _ _ hZ _ _ ls hP hD hS (lv_sub hl [0, 1, 2, 3] rfl)
    · have hq := hq.2 hc
      refine lv_iload_n hx hb dX1_fillPage_8 rfl (lv_at hl 2 rfl) ?_
      refine lv_aload_n hx hb dX1_fillPage_9 rfl (lv_at hl 0 rfl) ?_
      refine va_get (D := (dC, dI)) (ci := 1) (v := .int (I 9)) (C := RX1) (T := TX1) (N := 10) hx hb hts nX1_fillPage_X1 hown hK hP 0 rfl rfl 9 (by decide) (hts _ mX1_fillPage_f70) (fun _ h9 => h9) rfl dX1_fillPage_10 ?_
      refine lv_icmp_ne (tgt := 28) hx hb dX1_fillPage_13 (by decide) (fun hc => ?_) (fun hc => ?_)
      · have hq := hq.1 hc
        refine lv_iconst (v := (0 : Int32)) hx hb dX1_fillPage_28 (by decide) ?_
        exact hq _ _ hZ _ _ ls hP hD hS (lv_sub hl [0, 1, 2, 3] rfl)
      · have hq := hq.2 hc
        refine lv_iload_n hx hb dX1_fillPage_16 rfl (lv_at hl 1 rfl) ?_
        refine lv_aload_n hx hb dX1_fillPage_17 rfl (lv_at hl 0 rfl) ?_
        refine va_get (D := (dC, dI)) (ci := 1) (v := .int (I 8)) (C := RX1) (T := TX1) (N := 10) hx hb hts nX1_fillPage_X1 hown hK hP 0 rfl rfl 8 (by decide) (hts _ mX1_fillPage_f67) (fun _ h9 => h9) rfl dX1_fillPage_18 ?_
        refine lv_icmp_ge (tgt := 28) hx hb dX1_fillPage_21 (by decide) (fun hc => ?_) (fun hc => ?_)
        · have hq := hq.1 hc
          refine lv_iconst (v := (0 : Int32)) hx hb dX1_fillPage_28 (by decide) ?_
          exact hq _ _ hZ _ _ ls hP hD hS (lv_sub hl [0, 1, 2, 3] rfl)
        · have hq := hq.2 hc
          refine lv_iconst (v := (1 : Int32)) hx hb dX1_fillPage_24 (by decide) ?_
          refine lv_goto (tgt := 29) hx hb dX1_fillPage_25 (by decide) ?_
          exact hq _ _ hZ _ _ ls hP hD hS (lv_sub hl [0, 1, 2, 3] rfl)
