theorem nX3_told_X2 : ∀ w ∈ u_ws RX2 TX2 11, w ∈ vsX3_told := by decide +kernel
theorem mX3_told_f35 : Cond.fieldLink RX3 35 "YearBook" "pages" "LYearBook$Pages;" ∈ vsX3_told := by decide +kernel
theorem nX3_told_X3 : ∀ w ∈ u_ws RX3 TX3 9, w ∈ vsX3_told := by decide +kernel
theorem mX3_told_cl101 : Cond.classLink RX3 101 nNS ∈ vsX3_told := by decide +kernel
theorem mX3_told_iNS : Cond.initialized nNS ∈ vsX3_told := by decide +kernel
set_option maxHeartbeats 4000000 in
set_option maxRecDepth 100000 in
theorem tX3_told (l : Launch) (dC : Nat → ClassId) (dI : Nat → Nat → Nat) (cI : ClassId) (cJ : ClassId) (cP : ClassId) (h : Nat) (ad ad0 ad1 : Nat → Nat) (htr : l.stackTraces = false) (sa sz : Nat) (post : Int32 → Prop) (px : Prop) (p1 : Int32) (p2 : Int32) (I : Nat → Int32) (R : Nat → Nat → Int32) (CI : Nat → Int32) (CJ : Nat → Int64) (CR : Nat → Nat → Int32) (CG : Nat → Nat → Int64) (EI : Nat → Int32) (ER : Nat → Nat → Int32) (Eq : Nat) (En : Nat) (V : vS) (hq : qX3_told post px p1 p2 I R CI CJ CR CG EI ER Eq En V) : vx_Met l yX3_told vsX3_told ({ frames := 6, cells := 1, slots := 6, locals := 100 } : Room) (va_Pc [.ref h, .int p1, .int p2] (fun U => wPreN (dC, dI) vwCl [(cI, .int), (cJ, .long), (cP, .object "YearBook$Picture")] (wd3 cI cJ cP h ad ad0 ad1 I R CI CJ CR CG EI ER Eq En V) sz U ∧ thF sa (va_A (wd3 cI cJ cP h ad ad0 ad1 I R CI CJ CR CG EI ER Eq En V) sz) U U.heap)) (va_Qi (fun r (_ : Unit) => post r ) (wAt (dC, dI) vwCl [(cI, .int), (cJ, .long), (cP, .object "YearBook$Picture")] (va_A (wd3 cI cJ cP h ad ad0 ad1 I R CI CJ CR CG EI ER Eq En V) sz) (fun _ : Unit => wd3 cI cJ cP h ad ad0 ad1 I R CI CJ CR CG EI ER Eq En V)) (va_A (wd3 cI cJ cP h ad ad0 ad1 I R CI CJ CR CG EI ER Eq En V) sz)) (vx_X (fun _ : Unit => px) (xAt (dC, dI) vwCl [(cI, .int), (cJ, .long), (cP, .object "YearBook$Picture")] (va_A (wd3 cI cJ cP h ad ad0 ad1 I R CI CJ CR CG EI ER Eq En V) sz) (wd3 cI cJ cP h ad ad0 ad1 I R CI CJ CR CG EI ER Eq En V)) (va_A (wd3 cI cJ cP h ad ad0 ad1 I R CI CJ CR CG EI ER Eq En V) sz)) 1 6 (va_A (wd3 cI cJ cP h ad ad0 ad1 I R CI CJ CR CG EI ER Eq En V) sz) := by
  unfold qX3_told at hq
  refine vx_ofW (cc := cX3_told) (maxL := 4) (ret := (some .int)) (by decide) rfl ?_
  intro p e s m args below meth c s₁ B hml hnx hv
  obtain ⟨rfl, ⟨⟨hsz, hP, hK, hD0⟩, hn⟩, hth⟩ := hv
  have hx := B.exec
  have hb := B.bytes
  have hr := B.returns
  have hts := atoms_spec (ws := vsX3_told) B.pre
  have hown : s.vm.findClass RX3 = some m.cls := findClass_of_methodNamed B.named
  have hlocks := B.notSynchronized
  subst hsz
  have hD := hD0.self (sz := s.heap.size)
  generalize hAe : va_A (wd3 cI cJ cP h ad ad0 ad1 I R CI CJ CR CG EI ER Eq En V) s.heap.size = A at hD hth ⊢
  have hA : ∀ q : Nat, s.heap.size ≤ q → A q := fun q h => by rw [← hAe]; exact Or.inr h
  have hS : va_S A s.heap s.heap [] := va_S.rf
  have hZ : zX3_told post px p1 p2 I R CI CJ CR CG EI ER Eq En V
      (∀ (H : Heap) (locs : List Loc) (ls : Array Slot), va_P (dC, dI) vwCl (wd3 cI cJ cP h ad ad0 ad1 I R CI CJ CR CG EI ER Eq En V) H → va_D A (wd3 cI cJ cP h ad ad0 ad1 I R CI CJ CR CG EI ER Eq En V) → va_S A s.heap H locs → lv_has ls 4 [] → W p l e (headSpec vsX3_told ({ frames := 6, cells := 1, slots := 6, locals := 100 } : Room)).room s m ([.ref h, .int p1, .int p2] : List Value).toArray below meth c H locs 0 0 (vx_MQ below (va_Qi (fun r (_ : Unit) => post r ) (wAt (dC, dI) vwCl [(cI, .int), (cJ, .long), (cP, .object "YearBook$Picture")] A (fun _ : Unit => wd3 cI cJ cP h ad ad0 ad1 I R CI CJ CR CG EI ER Eq En V)) A) (vx_X (fun _ : Unit => px) (xAt (dC, dI) vwCl [(cI, .int), (cJ, .long), (cP, .object "YearBook$Picture")] A (wd3 cI cJ cP h ad ad0 ad1 I R CI CJ CR CG EI ER Eq En V)) A) ([.ref h, .int p1, .int p2] : List Value).toArray s 1 6 A) (F0 m 20 ls [])) := by
    unfold zX3_told
    intro  hq H locs ls hP hD hS hl
    exact vx_throwX (sa := sa) hx hb htr rx13_0 rx13_1 rx13_2 rx13_5 hown (by decide +kernel) (by decide +kernel) (hts _ mX3_told_cl101) (hts _ mX3_told_iNS) hth.1.2 (hth.1.at (fun w h => hts w (List.mem_cons_of_mem _ (List.mem_append_right _ h)))) lNS_ot hth.2.1 hth.2.2 hS (hl.1.trans hml.symm) dX3_told_20 dX3_told_23 dX3_told_24 dX3_told_26 dX3_told_29 (fun x hx => (hnx x hx).elim) (Nat.le_of_ble_eq_true rfl) (Nat.le_of_ble_eq_true rfl) (Nat.le_of_ble_eq_true rfl) (Nat.le_of_ble_eq_true rfl) hlocks (fun t ha hz hk => xAt.at hq hK hP hD hS ha hz hk) hS.2.2 (Nat.le_of_ble_eq_true rfl) (Nat.le_of_ble_eq_true rfl)
  have hl := lv_entry ([.ref h, .int p1, .int p2]) (n := 4) (Nat.le_of_ble_eq_true rfl)
  rw [lg_entry_eq]
  generalize (lg_sl ([.ref h, .int p1, .int p2]) ++ List.replicate (4 - (lg_sl ([.ref h, .int p1, .int p2])).length) Slot.unset).toArray = ls at hl ⊢
  have hl : lv_has ls 4 [(0, .ref h), (1, .int p1), (2, .int p2)] := hl
  refine lv_aload_n hx hb dX3_told_0 rfl (lv_at hl 0 rfl) ?_
  refine lv_iload_n hx hb dX3_told_1 rfl (lv_at hl 1 rfl) ?_
  obtain ⟨hI9, hN9, hq1, hq2⟩ := hq
  refine w_callq (wf := fun _ : Unit => wd3 cI cJ cP h ad ad0 ad1 I R CI CJ CR CG EI ER Eq En V) (va_runV (As := [.int p1]) (rest := []) ⟨hx, hb, hml, hown, hts⟩ (tX3_pictureAt l dC dI cI cJ cP h ad ad0 ad1 _ p1 I R CI CJ CR CG EI ER Eq En V hI9 hN9) (cwV 1 hts hX3_told_X3_pictureAt rfl rfl rfl (by decide +kernel) ⟨Nat.le_of_ble_eq_true rfl, Nat.le_of_ble_eq_true rfl⟩) (wPreVN hn hK hP hD (ci := 3) (q0 := 0) rfl rfl) rfl rfl hl.1 rfl (lv_room (Nat.le_of_ble_eq_true rfl)) dX3_told_2 ⟨Nat.le_of_ble_eq_true rfl, Nat.le_of_ble_eq_true rfl⟩) hD hS hA (fun r9 u9 H locs hp9 hP hD hS => ?_)
  have hP : va_P (dC, dI) vwCl (wd3 cI cJ cP h ad ad0 ad1 I R CI CJ CR CG EI ER Eq En V) H := hP
  have hD : va_D A (wd3 cI cJ cP h ad ad0 ad1 I R CI CJ CR CG EI ER Eq En V) := hD
  rcases hp9 with ⟨hc9, rfl⟩ | ⟨k_1, hk_1, ek_1, rfl⟩
  · have hq := hq1 hc9
    refine lv_astore_nN (lv' := [(3, .null), (0, .ref h), (1, .int p1), (2, .int p2)]) hx hb dX3_told_5 rfl hl (by decide) rfl (fun ls hl => ?_)
    refine lv_aload_nN hx hb dX3_told_6 rfl (lv_at hl 0 rfl) ?_
    refine lv_ifnullN (tgt := 20) hx hb dX3_told_7 (by decide) ?_
    exact hq _ hZ _ _ ls hP hD hS (lv_sub hl [] rfl)
  · have hq := hq2 k_1 hk_1 ek_1
    refine lv_astore_n (lv' := [(3, .ref (pvH V k_1)), (0, .ref h), (1, .int p1), (2, .int p2)]) hx hb dX3_told_5 rfl hl (by decide) rfl (fun ls hl => ?_)
    refine lv_aload_n hx hb dX3_told_6 rfl (lv_at hl 0 rfl) ?_
    refine lv_ifnull hx hb dX3_told_7 ?_
    refine lv_iload_n hx hb dX3_told_10 rfl (lv_at hl 3 rfl) ?_
    refine lv_iconst (v := (0 : Int32)) hx hb dX3_told_11 (by decide) ?_
    refine lv_bipush (v := (10 : Int32)) hx hb dX3_told_12 (by decide) ?_
    obtain ⟨Pc_2, hc, hq⟩ := hq
    refine vp_callSi (W.runS (As := [.int p2, .int (0 : Int32), .int (10 : Int32)]) (rest := []) ⟨hx, hb, hml, hown, hts⟩ (tX3_within l Pc_2 p2 (0 : Int32) (10 : Int32) hc) (va_cwS 3 hts hX3_told_X3_within rfl rfl rfl (by decide +kernel) ⟨Nat.le_of_ble_eq_true rfl, Nat.le_of_ble_eq_true rfl⟩) preEq rfl rfl hl.1 rfl (lv_room (Nat.le_of_ble_eq_true rfl)) dX3_told_14 ⟨Nat.le_of_ble_eq_true rfl, Nat.le_of_ble_eq_true rfl⟩) (fun rc_2 hp => ?_)
    have hq := hq rc_2 hp
    refine lv_if_ne (tgt := 30) hx hb dX3_told_17 (by decide) (fun hc => ?_) (fun hc => ?_)
    · have hq := hq.1 hc
      refine lv_iload_n hx hb dX3_told_30 rfl (lv_at hl 3 rfl) ?_
      by_cases g0 : p2 = (0 : Int32)
      · have hq := hq.2.1 g0
        refine lv_tableIn (off := 57) (tgt := 88) hx hb dX3_told_31 (by rw [g0]; decide) (by rw [g0]; decide) (by rw [g0]; rfl) (by decide) ?_
        refine lv_aload_n hx hb dX3_told_88 rfl (lv_at hl 0 rfl) ?_
        obtain ⟨q0, hq0⟩ := pic_in cI cJ cP h ad ad0 ad1 I R CI CJ CR CG EI ER Eq En V hk_1
        refine va_getN (D := (dC, dI)) (ci := 2) (v := .int (pvI V k_1 0)) (C := RX2) (T := TX2) (N := 11) (host := "YearBook") hx hb hts nX3_told_X2 hown hK hP q0 hq0 rfl 0 (by decide) (va_Nw.use rfl hn.2.2.2.1) (fun _ h9 => h9) rfl dX3_told_89 ?_
        refine W.widen (k := 1) (n := 6) (Nat.le_of_ble_eq_true rfl) (Nat.le_of_ble_eq_true rfl) ?_
        refine vx_ret ?_
        exact w_iret (post := fun r (_ : Unit) => post r ) (wf := fun _ : Unit => wd3 cI cJ cP h ad ad0 ad1 I R CI CJ CR CG EI ER Eq En V) (u := ()) hx hb hr hK hP hD hS hq dX3_told_92 hlocks
      by_cases g1 : p2 = (1 : Int32)
      · have hq := hq.2.2.1 g1
        refine lv_tableIn (off := 62) (tgt := 93) hx hb dX3_told_31 (by rw [g1]; decide) (by rw [g1]; decide) (by rw [g1]; rfl) (by decide) ?_
        refine lv_aload_n hx hb dX3_told_93 rfl (lv_at hl 0 rfl) ?_
        obtain ⟨q0, hq0⟩ := pic_in cI cJ cP h ad ad0 ad1 I R CI CJ CR CG EI ER Eq En V hk_1
        refine va_getN (D := (dC, dI)) (ci := 2) (v := .int (pvI V k_1 1)) (C := RX2) (T := TX2) (N := 11) (host := "YearBook") hx hb hts nX3_told_X2 hown hK hP q0 hq0 rfl 1 (by decide) (va_Nw.use rfl hn.2.2.2.2.1) (fun _ h9 => h9) rfl dX3_told_94 ?_
        refine W.widen (k := 1) (n := 6) (Nat.le_of_ble_eq_true rfl) (Nat.le_of_ble_eq_true rfl) ?_
        refine vx_ret ?_
        exact w_iret (post := fun r (_ : Unit) => post r ) (wf := fun _ : Unit => wd3 cI cJ cP h ad ad0 ad1 I R CI CJ CR CG EI ER Eq En V) (u := ()) hx hb hr hK hP hD hS hq dX3_told_97 hlocks
      by_cases g2 : p2 = (2 : Int32)
      · have hq := hq.2.2.2.1 g2
        refine lv_tableIn (off := 67) (tgt := 98) hx hb dX3_told_31 (by rw [g2]; decide) (by rw [g2]; decide) (by rw [g2]; rfl) (by decide) ?_
        refine lv_aload_n hx hb dX3_told_98 rfl (lv_at hl 0 rfl) ?_
        obtain ⟨q0, hq0⟩ := pic_in cI cJ cP h ad ad0 ad1 I R CI CJ CR CG EI ER Eq En V hk_1
        refine va_getN (D := (dC, dI)) (ci := 2) (v := .int (pvI V k_1 2)) (C := RX2) (T := TX2) (N := 11) (host := "YearBook") hx hb hts nX3_told_X2 hown hK hP q0 hq0 rfl 2 (by decide) (va_Nw.use rfl hn.2.2.2.2.2.1) (fun _ h9 => h9) rfl dX3_told_99 ?_
        refine W.widen (k := 1) (n := 6) (Nat.le_of_ble_eq_true rfl) (Nat.le_of_ble_eq_true rfl) ?_
        refine vx_ret ?_
        exact w_iret (post := fun r (_ : Unit) => post r ) (wf := fun _ : Unit => wd3 cI cJ cP h ad ad0 ad1 I R CI CJ CR CG EI ER Eq En V) (u := ()) hx hb hr hK hP hD hS hq dX3_told_102 hlocks
      by_cases g3 : p2 = (3 : Int32)
      · have hq := hq.2.2.2.2.1 g3
        refine lv_tableIn (off := 72) (tgt := 103) hx hb dX3_told_31 (by rw [g3]; decide) (by rw [g3]; decide) (by rw [g3]; rfl) (by decide) ?_
        refine lv_aload_n hx hb dX3_told_103 rfl (lv_at hl 0 rfl) ?_
        obtain ⟨q0, hq0⟩ := pic_in cI cJ cP h ad ad0 ad1 I R CI CJ CR CG EI ER Eq En V hk_1
        refine va_getN (D := (dC, dI)) (ci := 2) (v := .int (pvI V k_1 3)) (C := RX2) (T := TX2) (N := 11) (host := "YearBook") hx hb hts nX3_told_X2 hown hK hP q0 hq0 rfl 3 (by decide) (va_Nw.use rfl hn.2.2.2.2.2.2.1) (fun _ h9 => h9) rfl dX3_told_104 ?_
        refine W.widen (k := 1) (n := 6) (Nat.le_of_ble_eq_true rfl) (Nat.le_of_ble_eq_true rfl) ?_
        refine vx_ret ?_
        exact w_iret (post := fun r (_ : Unit) => post r ) (wf := fun _ : Unit => wd3 cI cJ cP h ad ad0 ad1 I R CI CJ CR CG EI ER Eq En V) (u := ()) hx hb hr hK hP hD hS hq dX3_told_107 hlocks
      by_cases g4 : p2 = (4 : Int32)
      · have hq := hq.2.2.2.2.2.1 g4
        refine lv_tableIn (off := 77) (tgt := 108) hx hb dX3_told_31 (by rw [g4]; decide) (by rw [g4]; decide) (by rw [g4]; rfl) (by decide) ?_
        refine lv_aload_n hx hb dX3_told_108 rfl (lv_at hl 0 rfl) ?_
        obtain ⟨q0, hq0⟩ := pic_in cI cJ cP h ad ad0 ad1 I R CI CJ CR CG EI ER Eq En V hk_1
        refine va_getN (D := (dC, dI)) (ci := 2) (v := .int (pvI V k_1 9)) (C := RX2) (T := TX2) (N := 11) (host := "YearBook") hx hb hts nX3_told_X2 hown hK hP q0 hq0 rfl 9 (by decide) (va_Nw.use rfl hn.2.2.2.2.2.2.2.1) (fun _ h9 => h9) rfl dX3_told_109 ?_
        refine lv_if_eq (tgt := 119) hx hb dX3_told_112 (by decide) (fun hc => ?_) (fun hc => ?_)
        · have hq := hq.1 hc
          refine lv_iconst (v := (0 : Int32)) hx hb dX3_told_119 (by decide) ?_
          refine W.widen (k := 1) (n := 6) (Nat.le_of_ble_eq_true rfl) (Nat.le_of_ble_eq_true rfl) ?_
          refine vx_ret ?_
          exact w_iret (post := fun r (_ : Unit) => post r ) (wf := fun _ : Unit => wd3 cI cJ cP h ad ad0 ad1 I R CI CJ CR CG EI ER Eq En V) (u := ()) hx hb hr hK hP hD hS hq dX3_told_120 hlocks
        · have hq := hq.2 hc
          refine lv_iconst (v := (1 : Int32)) hx hb dX3_told_115 (by decide) ?_
          refine lv_goto (tgt := 120) hx hb dX3_told_116 (by decide) ?_
          refine W.widen (k := 1) (n := 6) (Nat.le_of_ble_eq_true rfl) (Nat.le_of_ble_eq_true rfl) ?_
          refine vx_ret ?_
          exact w_iret (post := fun r (_ : Unit) => post r ) (wf := fun _ : Unit => wd3 cI cJ cP h ad ad0 ad1 I R CI CJ CR CG EI ER Eq En V) (u := ()) hx hb hr hK hP hD hS hq dX3_told_120 hlocks
      by_cases g5 : p2 = (5 : Int32)
      · have hq := hq.2.2.2.2.2.2.1 g5
        refine lv_tableIn (off := 90) (tgt := 121) hx hb dX3_told_31 (by rw [g5]; decide) (by rw [g5]; decide) (by rw [g5]; rfl) (by decide) ?_
        refine lv_aload_n hx hb dX3_told_121 rfl (lv_at hl 0 rfl) ?_
        obtain ⟨q0, hq0⟩ := pic_in cI cJ cP h ad ad0 ad1 I R CI CJ CR CG EI ER Eq En V hk_1
        refine va_getN (D := (dC, dI)) (ci := 2) (v := .int (pvI V k_1 9)) (C := RX2) (T := TX2) (N := 11) (host := "YearBook") hx hb hts nX3_told_X2 hown hK hP q0 hq0 rfl 9 (by decide) (va_Nw.use rfl hn.2.2.2.2.2.2.2.1) (fun _ h9 => h9) rfl dX3_told_122 ?_
        refine W.widen (k := 1) (n := 6) (Nat.le_of_ble_eq_true rfl) (Nat.le_of_ble_eq_true rfl) ?_
        refine vx_ret ?_
        exact w_iret (post := fun r (_ : Unit) => post r ) (wf := fun _ : Unit => wd3 cI cJ cP h ad ad0 ad1 I R CI CJ CR CG EI ER Eq En V) (u := ()) hx hb hr hK hP hD hS hq dX3_told_125 hlocks
      by_cases g6 : p2 = (6 : Int32)
      · have hq := hq.2.2.2.2.2.2.2.1 g6
        refine lv_tableIn (off := 104) (tgt := 135) hx hb dX3_told_31 (by rw [g6]; decide) (by rw [g6]; decide) (by rw [g6]; rfl) (by decide) ?_
        refine lv_aload_n hx hb dX3_told_135 rfl (lv_at hl 0 rfl) ?_
        refine lv_iload_n hx hb dX3_told_136 rfl (lv_at hl 3 rfl) ?_
        refine lv_bipush (v := (6 : Int32)) hx hb dX3_told_137 (by decide) ?_
        refine lv_isub hx hb dX3_told_139 ?_
        obtain ⟨Pc_4, hc, hq⟩ := hq
        obtain ⟨q0, hq0⟩ := pic_in cI cJ cP h ad ad0 ad1 I R CI CJ CR CG EI ER Eq En V hk_1
        refine w_calli (wf := fun _ : Unit => wd3 cI cJ cP h ad ad0 ad1 I R CI CJ CR CG EI ER Eq En V) (va_runV (As := [.int (p2 - (6 : Int32))]) (rest := []) ⟨hx, hb, hml, hown, hts⟩ (Met_frame_i (w' := fun _ : Unit => wd3 cI cJ cP h ad ad0 ad1 I R CI CJ CR CG EI ER Eq En V) (tys2 := [(cI, .int), (cJ, .long), (cP, .object "YearBook$Picture")]) (tX2_edge l dC dI cI (pvH V k_1) (pvA V k_1) _ Pc_4 (p2 - (6 : Int32)) (pvI V k_1) (pvR V k_1) hc) (p3v cI cJ cP h ad ad0 ad1 I R CI CJ CR CG EI ER Eq En V hk_1) (fun _ => (p3v cI cJ cP h ad ad0 ad1 I R CI CJ CR CG EI ER Eq En V hk_1).symm) (fun U hU => hU.sub [0] rfl)) (cwV 1 hts hX3_told_X2_edge rfl rfl rfl (by decide +kernel) ⟨Nat.le_of_ble_eq_true rfl, Nat.le_of_ble_eq_true rfl⟩) (wPreV hK hP hD (ci := 2) (q0 := q0) rfl hq0) rfl rfl hl.1 rfl (lv_room (Nat.le_of_ble_eq_true rfl)) dX3_told_140 ⟨Nat.le_of_ble_eq_true rfl, Nat.le_of_ble_eq_true rfl⟩) hD hS hA (fun rc_4 u H locs hp hP hD hS => ?_)
        have hq := hq rc_4 hp
        have hP : va_P (dC, dI) vwCl (wd3 cI cJ cP h ad ad0 ad1 I R CI CJ CR CG EI ER Eq En V) H := hP
        have hD : va_D A (wd3 cI cJ cP h ad ad0 ad1 I R CI CJ CR CG EI ER Eq En V) := hD
        refine W.widen (k := 1) (n := 6) (Nat.le_of_ble_eq_true rfl) (Nat.le_of_ble_eq_true rfl) ?_
        refine vx_ret ?_
        exact w_iret (post := fun r (_ : Unit) => post r ) (wf := fun _ : Unit => wd3 cI cJ cP h ad ad0 ad1 I R CI CJ CR CG EI ER Eq En V) (u := ()) hx hb hr hK hP hD hS hq dX3_told_143 hlocks
      by_cases g7 : p2 = (7 : Int32)
      · have hq := hq.2.2.2.2.2.2.2.2.1 g7
        refine lv_tableIn (off := 104) (tgt := 135) hx hb dX3_told_31 (by rw [g7]; decide) (by rw [g7]; decide) (by rw [g7]; rfl) (by decide) ?_
        refine lv_aload_n hx hb dX3_told_135 rfl (lv_at hl 0 rfl) ?_
        refine lv_iload_n hx hb dX3_told_136 rfl (lv_at hl 3 rfl) ?_
        refine lv_bipush (v := (6 : Int32)) hx hb dX3_told_137 (by decide) ?_
        refine lv_isub hx hb dX3_told_139 ?_
        obtain ⟨Pc_5, hc, hq⟩ := hq
        obtain ⟨q0, hq0⟩ := pic_in cI cJ cP h ad ad0 ad1 I R CI CJ CR CG EI ER Eq En V hk_1
        refine w_calli (wf := fun _ : Unit => wd3 cI cJ cP h ad ad0 ad1 I R CI CJ CR CG EI ER Eq En V) (va_runV (As := [.int (p2 - (6 : Int32))]) (rest := []) ⟨hx, hb, hml, hown, hts⟩ (Met_frame_i (w' := fun _ : Unit => wd3 cI cJ cP h ad ad0 ad1 I R CI CJ CR CG EI ER Eq En V) (tys2 := [(cI, .int), (cJ, .long), (cP, .object "YearBook$Picture")]) (tX2_edge l dC dI cI (pvH V k_1) (pvA V k_1) _ Pc_5 (p2 - (6 : Int32)) (pvI V k_1) (pvR V k_1) hc) (p3v cI cJ cP h ad ad0 ad1 I R CI CJ CR CG EI ER Eq En V hk_1) (fun _ => (p3v cI cJ cP h ad ad0 ad1 I R CI CJ CR CG EI ER Eq En V hk_1).symm) (fun U hU => hU.sub [0] rfl)) (cwV 1 hts hX3_told_X2_edge rfl rfl rfl (by decide +kernel) ⟨Nat.le_of_ble_eq_true rfl, Nat.le_of_ble_eq_true rfl⟩) (wPreV hK hP hD (ci := 2) (q0 := q0) rfl hq0) rfl rfl hl.1 rfl (lv_room (Nat.le_of_ble_eq_true rfl)) dX3_told_140 ⟨Nat.le_of_ble_eq_true rfl, Nat.le_of_ble_eq_true rfl⟩) hD hS hA (fun rc_5 u H locs hp hP hD hS => ?_)
        have hq := hq rc_5 hp
        have hP : va_P (dC, dI) vwCl (wd3 cI cJ cP h ad ad0 ad1 I R CI CJ CR CG EI ER Eq En V) H := hP
        have hD : va_D A (wd3 cI cJ cP h ad ad0 ad1 I R CI CJ CR CG EI ER Eq En V) := hD
        refine W.widen (k := 1) (n := 6) (Nat.le_of_ble_eq_true rfl) (Nat.le_of_ble_eq_true rfl) ?_
        refine vx_ret ?_
        exact w_iret (post := fun r (_ : Unit) => post r ) (wf := fun _ : Unit => wd3 cI cJ cP h ad ad0 ad1 I R CI CJ CR CG EI ER Eq En V) (u := ()) hx hb hr hK hP hD hS hq dX3_told_143 hlocks
      by_cases g8 : p2 = (8 : Int32)
      · have hq := hq.2.2.2.2.2.2.2.2.2.1 g8
        refine lv_tableIn (off := 104) (tgt := 135) hx hb dX3_told_31 (by rw [g8]; decide) (by rw [g8]; decide) (by rw [g8]; rfl) (by decide) ?_
        refine lv_aload_n hx hb dX3_told_135 rfl (lv_at hl 0 rfl) ?_
        refine lv_iload_n hx hb dX3_told_136 rfl (lv_at hl 3 rfl) ?_
        refine lv_bipush (v := (6 : Int32)) hx hb dX3_told_137 (by decide) ?_
        refine lv_isub hx hb dX3_told_139 ?_
        obtain ⟨Pc_6, hc, hq⟩ := hq
        obtain ⟨q0, hq0⟩ := pic_in cI cJ cP h ad ad0 ad1 I R CI CJ CR CG EI ER Eq En V hk_1
        refine w_calli (wf := fun _ : Unit => wd3 cI cJ cP h ad ad0 ad1 I R CI CJ CR CG EI ER Eq En V) (va_runV (As := [.int (p2 - (6 : Int32))]) (rest := []) ⟨hx, hb, hml, hown, hts⟩ (Met_frame_i (w' := fun _ : Unit => wd3 cI cJ cP h ad ad0 ad1 I R CI CJ CR CG EI ER Eq En V) (tys2 := [(cI, .int), (cJ, .long), (cP, .object "YearBook$Picture")]) (tX2_edge l dC dI cI (pvH V k_1) (pvA V k_1) _ Pc_6 (p2 - (6 : Int32)) (pvI V k_1) (pvR V k_1) hc) (p3v cI cJ cP h ad ad0 ad1 I R CI CJ CR CG EI ER Eq En V hk_1) (fun _ => (p3v cI cJ cP h ad ad0 ad1 I R CI CJ CR CG EI ER Eq En V hk_1).symm) (fun U hU => hU.sub [0] rfl)) (cwV 1 hts hX3_told_X2_edge rfl rfl rfl (by decide +kernel) ⟨Nat.le_of_ble_eq_true rfl, Nat.le_of_ble_eq_true rfl⟩) (wPreV hK hP hD (ci := 2) (q0 := q0) rfl hq0) rfl rfl hl.1 rfl (lv_room (Nat.le_of_ble_eq_true rfl)) dX3_told_140 ⟨Nat.le_of_ble_eq_true rfl, Nat.le_of_ble_eq_true rfl⟩) hD hS hA (fun rc_6 u H locs hp hP hD hS => ?_)
        have hq := hq rc_6 hp
        have hP : va_P (dC, dI) vwCl (wd3 cI cJ cP h ad ad0 ad1 I R CI CJ CR CG EI ER Eq En V) H := hP
        have hD : va_D A (wd3 cI cJ cP h ad ad0 ad1 I R CI CJ CR CG EI ER Eq En V) := hD
        refine W.widen (k := 1) (n := 6) (Nat.le_of_ble_eq_true rfl) (Nat.le_of_ble_eq_true rfl) ?_
        refine vx_ret ?_
        exact w_iret (post := fun r (_ : Unit) => post r ) (wf := fun _ : Unit => wd3 cI cJ cP h ad ad0 ad1 I R CI CJ CR CG EI ER Eq En V) (u := ()) hx hb hr hK hP hD hS hq dX3_told_143 hlocks
      by_cases g9 : p2 = (9 : Int32)
      · have hq := hq.2.2.2.2.2.2.2.2.2.2.1 g9
        refine lv_tableIn (off := 104) (tgt := 135) hx hb dX3_told_31 (by rw [g9]; decide) (by rw [g9]; decide) (by rw [g9]; rfl) (by decide) ?_
        refine lv_aload_n hx hb dX3_told_135 rfl (lv_at hl 0 rfl) ?_
        refine lv_iload_n hx hb dX3_told_136 rfl (lv_at hl 3 rfl) ?_
        refine lv_bipush (v := (6 : Int32)) hx hb dX3_told_137 (by decide) ?_
        refine lv_isub hx hb dX3_told_139 ?_
        obtain ⟨Pc_7, hc, hq⟩ := hq
        obtain ⟨q0, hq0⟩ := pic_in cI cJ cP h ad ad0 ad1 I R CI CJ CR CG EI ER Eq En V hk_1
        refine w_calli (wf := fun _ : Unit => wd3 cI cJ cP h ad ad0 ad1 I R CI CJ CR CG EI ER Eq En V) (va_runV (As := [.int (p2 - (6 : Int32))]) (rest := []) ⟨hx, hb, hml, hown, hts⟩ (Met_frame_i (w' := fun _ : Unit => wd3 cI cJ cP h ad ad0 ad1 I R CI CJ CR CG EI ER Eq En V) (tys2 := [(cI, .int), (cJ, .long), (cP, .object "YearBook$Picture")]) (tX2_edge l dC dI cI (pvH V k_1) (pvA V k_1) _ Pc_7 (p2 - (6 : Int32)) (pvI V k_1) (pvR V k_1) hc) (p3v cI cJ cP h ad ad0 ad1 I R CI CJ CR CG EI ER Eq En V hk_1) (fun _ => (p3v cI cJ cP h ad ad0 ad1 I R CI CJ CR CG EI ER Eq En V hk_1).symm) (fun U hU => hU.sub [0] rfl)) (cwV 1 hts hX3_told_X2_edge rfl rfl rfl (by decide +kernel) ⟨Nat.le_of_ble_eq_true rfl, Nat.le_of_ble_eq_true rfl⟩) (wPreV hK hP hD (ci := 2) (q0 := q0) rfl hq0) rfl rfl hl.1 rfl (lv_room (Nat.le_of_ble_eq_true rfl)) dX3_told_140 ⟨Nat.le_of_ble_eq_true rfl, Nat.le_of_ble_eq_true rfl⟩) hD hS hA (fun rc_7 u H locs hp hP hD hS => ?_)
        have hq := hq rc_7 hp
        have hP : va_P (dC, dI) vwCl (wd3 cI cJ cP h ad ad0 ad1 I R CI CJ CR CG EI ER Eq En V) H := hP
        have hD : va_D A (wd3 cI cJ cP h ad ad0 ad1 I R CI CJ CR CG EI ER Eq En V) := hD
        refine W.widen (k := 1) (n := 6) (Nat.le_of_ble_eq_true rfl) (Nat.le_of_ble_eq_true rfl) ?_
        refine vx_ret ?_
        exact w_iret (post := fun r (_ : Unit) => post r ) (wf := fun _ : Unit => wd3 cI cJ cP h ad ad0 ad1 I R CI CJ CR CG EI ER Eq En V) (u := ()) hx hb hr hK hP hD hS hq dX3_told_143 hlocks
      by_cases g10 : p2 = (10 : Int32)
      · have hq := hq.2.2.2.2.2.2.2.2.2.2.2 g10
        refine lv_tableIn (off := 95) (tgt := 126) hx hb dX3_told_31 (by rw [g10]; decide) (by rw [g10]; decide) (by rw [g10]; rfl) (by decide) ?_
        refine lv_aload_n hx hb dX3_told_126 rfl (lv_at hl 1 rfl) ?_
        refine va_get (D := (dC, dI)) (ci := 3) (v := .ref (ad 8)) (C := RX3) (T := TX3) (N := 9) hx hb hts nX3_told_X3 hown hK hP 0 rfl rfl 8 (by decide) (hts _ mX3_told_f35) (fun _ h9 => h9) rfl dX3_told_127 ?_
        refine lv_iload_n hx hb dX3_told_130 rfl (lv_at hl 2 rfl) ?_
        obtain ⟨Pc_8, hc, hq⟩ := hq
        refine w_calli (wf := fun _ : Unit => wd3 cI cJ cP h ad ad0 ad1 I R CI CJ CR CG EI ER Eq En V) (va_runV (As := [.int p1]) (rest := []) ⟨hx, hb, hml, hown, hts⟩ (Met_frame_i (w' := fun _ : Unit => wd3 cI cJ cP h ad ad0 ad1 I R CI CJ CR CG EI ER Eq En V) (tys2 := [(cI, .int), (cJ, .long), (cP, .object "YearBook$Picture")]) (tX1_pageOf l dC dI cI (ad 8) ad1 _ Pc_8 p1 EI ER Eq En hc) (p3e cI cJ cP h ad ad0 ad1 I R CI CJ CR CG EI ER Eq En V) (fun _ => (p3e cI cJ cP h ad ad0 ad1 I R CI CJ CR CG EI ER Eq En V).symm) (fun U hU => hU.sub [0] rfl)) (cwV 1 hts hX3_told_X1_pageOf rfl rfl rfl (by decide +kernel) ⟨Nat.le_of_ble_eq_true rfl, Nat.le_of_ble_eq_true rfl⟩) (wPreV hK hP hD (ci := 1) (q0 := 13) rfl rfl) rfl rfl hl.1 rfl (lv_room (Nat.le_of_ble_eq_true rfl)) dX3_told_131 ⟨Nat.le_of_ble_eq_true rfl, Nat.le_of_ble_eq_true rfl⟩) hD hS hA (fun rc_8 u H locs hp hP hD hS => ?_)
        have hq := hq rc_8 hp
        have hP : va_P (dC, dI) vwCl (wd3 cI cJ cP h ad ad0 ad1 I R CI CJ CR CG EI ER Eq En V) H := hP
        have hD : va_D A (wd3 cI cJ cP h ad ad0 ad1 I R CI CJ CR CG EI ER Eq En V) := hD
        refine W.widen (k := 1) (n := 6) (Nat.le_of_ble_eq_true rfl) (Nat.le_of_ble_eq_true rfl) ?_
        refine vx_ret ?_
        exact w_iret (post := fun r (_ : Unit) => post r ) (wf := fun _ : Unit => wd3 cI cJ cP h ad ad0 ad1 I R CI CJ CR CG EI ER Eq En V) (u := ()) hx hb hr hK hP hD hS hq dX3_told_134 hlocks
      have g0 : p2.toInt ≠ 0 := ne_toInt g0
      have g1 : p2.toInt ≠ 1 := ne_toInt g1
      have g2 : p2.toInt ≠ 2 := ne_toInt g2
      have g3 : p2.toInt ≠ 3 := ne_toInt g3
      have g4 : p2.toInt ≠ 4 := ne_toInt g4
      have g5 : p2.toInt ≠ 5 := ne_toInt g5
      have g6 : p2.toInt ≠ 6 := ne_toInt g6
      have g7 : p2.toInt ≠ 7 := ne_toInt g7
      have g8 : p2.toInt ≠ 8 := ne_toInt g8
      have g9 : p2.toInt ≠ 9 := ne_toInt g9
      have g10 : p2.toInt ≠ 10 := ne_toInt g10
      have hc : p2.toInt < 0 ∨ 10 < p2.toInt := by omega
      have hq := hq.1 hc
      refine lv_tableOut (tgt := 135) hx hb dX3_told_31 hc (by decide) ?_
      refine lv_aload_n hx hb dX3_told_135 rfl (lv_at hl 0 rfl) ?_
      refine lv_iload_n hx hb dX3_told_136 rfl (lv_at hl 3 rfl) ?_
      refine lv_bipush (v := (6 : Int32)) hx hb dX3_told_137 (by decide) ?_
      refine lv_isub hx hb dX3_told_139 ?_
      obtain ⟨Pc_3, hc, hq⟩ := hq
      obtain ⟨q0, hq0⟩ := pic_in cI cJ cP h ad ad0 ad1 I R CI CJ CR CG EI ER Eq En V hk_1
      refine w_calli (wf := fun _ : Unit => wd3 cI cJ cP h ad ad0 ad1 I R CI CJ CR CG EI ER Eq En V) (va_runV (As := [.int (p2 - (6 : Int32))]) (rest := []) ⟨hx, hb, hml, hown, hts⟩ (Met_frame_i (w' := fun _ : Unit => wd3 cI cJ cP h ad ad0 ad1 I R CI CJ CR CG EI ER Eq En V) (tys2 := [(cI, .int), (cJ, .long), (cP, .object "YearBook$Picture")]) (tX2_edge l dC dI cI (pvH V k_1) (pvA V k_1) _ Pc_3 (p2 - (6 : Int32)) (pvI V k_1) (pvR V k_1) hc) (p3v cI cJ cP h ad ad0 ad1 I R CI CJ CR CG EI ER Eq En V hk_1) (fun _ => (p3v cI cJ cP h ad ad0 ad1 I R CI CJ CR CG EI ER Eq En V hk_1).symm) (fun U hU => hU.sub [0] rfl)) (cwV 1 hts hX3_told_X2_edge rfl rfl rfl (by decide +kernel) ⟨Nat.le_of_ble_eq_true rfl, Nat.le_of_ble_eq_true rfl⟩) (wPreV hK hP hD (ci := 2) (q0 := q0) rfl hq0) rfl rfl hl.1 rfl (lv_room (Nat.le_of_ble_eq_true rfl)) dX3_told_140 ⟨Nat.le_of_ble_eq_true rfl, Nat.le_of_ble_eq_true rfl⟩) hD hS hA (fun rc_3 u H locs hp hP hD hS => ?_)
      have hq := hq rc_3 hp
      have hP : va_P (dC, dI) vwCl (wd3 cI cJ cP h ad ad0 ad1 I R CI CJ CR CG EI ER Eq En V) H := hP
      have hD : va_D A (wd3 cI cJ cP h ad ad0 ad1 I R CI CJ CR CG EI ER Eq En V) := hD
      refine W.widen (k := 1) (n := 6) (Nat.le_of_ble_eq_true rfl) (Nat.le_of_ble_eq_true rfl) ?_
      refine vx_ret ?_
      exact w_iret (post := fun r (_ : Unit) => post r ) (wf := fun _ : Unit => wd3 cI cJ cP h ad ad0 ad1 I R CI CJ CR CG EI ER Eq En V) (u := ()) hx hb hr hK hP hD hS hq dX3_told_143 hlocks
    · have hq := hq.2 hc
      exact hq _ hZ _ _ ls hP hD hS (lv_sub hl [] rfl)
