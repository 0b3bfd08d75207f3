theorem set_last {α : Type} (w : List α) (a b : α) : (w ++ [a]).set w.length b = w ++ [b] := by simp
theorem get_last {α : Type} (w : List α) (a : α) : (w ++ [a])[w.length]? = some a := by simp
section
variable {s : State} {H : Heap} {locs : List Loc} {D : va_G} {cl : List vw_C} {A : Nat → Prop} {tys : List (ClassId × FieldType)} {ws : va_W}
theorem wBlindT {av : List Value} {sz sa : Nat} {B : Nat → Prop} : FrameBlind (va_Pc av (fun U => wPreN D cl tys ws sz U ∧ thF sa B U U.heap)) := fun a U g mk q => by
  obtain ⟨q0, ⟨⟨q1, qP, qK, qD⟩, qn⟩, qt, qu, qv⟩ := q
  exact ⟨q0, ⟨⟨q1, qP, va_K.moved (u := U) (U := U.calling g mk a) (Vm.Alike.refl U.vm) qK, qD⟩, qn.same rfl⟩, qt.same rfl, vx_Zq.moved (u := U) (U := U.calling g mk a) (Vm.Alike.refl U.vm) qu, vx_Zq.moved (u := U) (U := U.calling g mk a) (Vm.Alike.refl U.vm) qv⟩
theorem thF.go {sa : Nat} {B : Nat → Prop} {U : State} (h : thF sa A s s.heap) (hS : va_S A s.heap H locs) (hU : U.heap = H) (hW : s.WarmedH U.vm) (hB : ∀ q, B q → A q) : thF sa B U U.heap := by
  rw [hU]
  have k : ∀ a : Nat, a < s.heap.size → ¬ A a → H[a]? = s.heap[a]? := hS.2.1
  exact ⟨h.1.warm hW, (vx_Zq.moved hW.alike (h.2.1.kept k)).narrow hB, (vx_Zq.moved hW.alike (h.2.2.kept k)).narrow hB⟩
theorem wPreVT {b sa : Nat} {As : List Value} {q0 ci : Nat} {q : vw_C} {fs : List Value} (hn : nst s) (hth : thF sa A s s.heap) (hS : va_S A s.heap H locs) (hA : ∀ q, s.heap.size ≤ q → A q) (hK : va_K D cl tys s) (hP : va_P D cl ws H) (hD : va_D A ws) (hc : cl[ci]? = some q) (he : ws[q0]? = some (b, .inr (ci, fs))) : PreV s H q.1 b (va_Pc (.ref b :: As) (fun U => wPreN D cl tys ws H.size U ∧ thF sa (va_A ws H.size) U U.heap)) As :=
  ⟨wBlindT, va_recv hK hP hc he, fun U hU hW => ⟨rfl, ⟨⟨by rw [hU], by rw [hU]; exact hP, va_K.moved hW.alike hK, hD.weaken (fun _ _ _ _ => trivial)⟩, hn.warm hW⟩, hth.go hS hU hW (wFree hD hS hA)⟩⟩
end
theorem mL_told_c13 : Cond.classLink RL 13 nNS ∈ vsL_told := by decide +kernel
set_option maxHeartbeats 4000000 in
set_option maxRecDepth 100000 in
theorem tL_told (l : Launch) (htr : l.stackTraces = false) (dC : Nat → ClassId) (dI : Nat → Nat → Nat) (cI cJ cP : ClassId) (h : Nat) (ad ad0 ad1 : Nat → Nat) (ao : Nat) (fo : Nat → Int64) (sa sz : Nat) (post : Int32 → Prop) (px : Prop) (p1 p2 : Int32) (I : Nat → Int32) (R : Nat → Nat → Int32) (CI : Nat → Int32) (CJ : Nat → Int64) (CR : Nat → Nat → Int32) (CG : Nat → Nat → Int64) (EI : Nat → Int32) (ER : Nat → Nat → Int32) (Eq En : Nat) (V : vS) (hq : qX3_told post px p1 p2 I R CI CJ CR CG EI ER Eq En V) :
    Met l yL_told vsL_told ({ frames := 7, cells := 1, slots := 6, locals := 130 } : Room) (va_Pc [.ref h, .int p1, .int p2, .ref ao] (fun U => wPreN (dC, dI) vwCl [(cI, .int), (cJ, .long), (cP, .object "YearBook$Picture")] (wd3 cI cJ cP h ad ad0 ad1 I R CI CJ CR CG EI ER Eq En V ++ [(ao, .inl (cJ, 1, .inr (.inl fo)))]) sz U ∧ thF sa (va_A (wd3 cI cJ cP h ad ad0 ad1 I R CI CJ CR CG EI ER Eq En V ++ [(ao, .inl (cJ, 1, .inr (.inl fo)))]) sz) U U.heap))
      (va_Qi (fun r (u : Nat → Int64) => (r = 0 ∧ ∃ v : Int32, post v ∧ u = vp_updL fo 0 v.toInt64) ∨ (r = 1 ∧ px ∧ u = fo)) (wAt (dC, dI) vwCl [(cI, .int), (cJ, .long), (cP, .object "YearBook$Picture")] (va_A (wd3 cI cJ cP h ad ad0 ad1 I R CI CJ CR CG EI ER Eq En V ++ [(ao, .inl (cJ, 1, .inr (.inl fo)))]) sz) (fun u => wd3 cI cJ cP h ad ad0 ad1 I R CI CJ CR CG EI ER Eq En V ++ [(ao, .inl (cJ, 1, .inr (.inl u)))])) (va_A (wd3 cI cJ cP h ad ad0 ad1 I R CI CJ CR CG EI ER Eq En V ++ [(ao, .inl (cJ, 1, .inr (.inl fo)))]) sz)) 1 6 (va_A (wd3 cI cJ cP h ad ad0 ad1 I R CI CJ CR CG EI ER Eq En V ++ [(ao, .inl (cJ, 1, .inr (.inl fo)))]) sz) := by
  refine va_MetW (cc := cL_told) (maxL := 5) (ret := (some .int)) (hh := [(0, 10, 13, 13)]) (by decide) rfl ?_
  intro p e s m args below meth c s₁ B hml hv
  obtain ⟨rfl, ⟨⟨hsz, hP, hK, hD0⟩, hn⟩, hth⟩ := hv
  have hx := B.exec
  have hb := B.bytes
  have hr := B.returns
  have hts := atoms_spec (ws := vsL_told) B.pre
  have hown : s.vm.findClass RL = some m.cls := findClass_of_methodNamed B.named
  have hlocks := B.notSynchronized
  have htab : c.exceptionTable.toList = tableOf [(0, 10, 13, 13)] := vx_table (x := yL_told) B (hts _ List.mem_cons_self)
  subst hsz
  have hD := hD0.self (sz := s.heap.size)
  generalize hAe : va_A (wd3 cI cJ cP h ad ad0 ad1 I R CI CJ CR CG EI ER Eq En V ++ [(ao, .inl (cJ, 1, .inr (.inl fo)))]) s.heap.size = A at hD hth ⊢
  have hA : ∀ q : Nat, s.heap.size ≤ q → A q := fun q h => by rw [← hAe]; exact Or.inr h
  have hS : va_S A s.heap s.heap [] := va_S.rf
  have hl := lv_entry ([.ref h, .int p1, .int p2, .ref ao]) (n := 5) (Nat.le_of_ble_eq_true rfl)
  rw [lg_entry_eq]
  generalize (lg_sl ([.ref h, .int p1, .int p2, .ref ao]) ++ List.replicate (5 - (lg_sl ([.ref h, .int p1, .int p2, .ref ao])).length) Slot.unset).toArray = ls at hl ⊢
  have hl : lv_has ls 5 [(0, .ref h), (1, .int p1), (2, .int p2), (3, .ref ao)] := hl
  refine lv_aload_n hx hb dL_told_0 rfl (lv_at hl 3 rfl) ?_
  refine lv_iconst (v := (0 : Int32)) hx hb dL_told_1 (by decide) ?_
  refine lv_aload_n hx hb dL_told_2 rfl (lv_at hl 0 rfl) ?_
  refine lv_iload_n hx hb dL_told_3 rfl (lv_at hl 1 rfl) ?_
  refine lv_iload_n hx hb dL_told_4 rfl (lv_at hl 2 rfl) ?_
  have hF : ∀ q, va_A (wd3 cI cJ cP h ad ad0 ad1 I R CI CJ CR CG EI ER Eq En V) s.heap.size q → A q := wFree (vD_l hD) hS hA
  refine vx_calli (vx_runV (As := [.int p1, .int p2]) (rest := [.int (0 : Int32), .ref ao]) ⟨hx, hb, hml, hown, hts⟩ (tX3_told l dC dI cI cJ cP h ad ad0 ad1 htr sa _ post px p1 p2 I R CI CJ CR CG EI ER Eq En V hq) (cwV 2 hts gL_told_X3_told rfl rfl rfl (by decide +kernel) ⟨Nat.le_of_ble_eq_true rfl, Nat.le_of_ble_eq_true rfl⟩) (wPreVT hn hth hS hA hK (vP_l hP) (vD_l hD) (ci := 3) (q0 := 0) rfl rfl) rfl rfl hl.1 rfl (lv_room (Nat.le_of_ble_eq_true rfl)) dL_told_5 ⟨Nat.le_of_ble_eq_true rfl, Nat.le_of_ble_eq_true rfl⟩) hS (fun q _ h => hF q h) hF (fun q _ h => hF q h) (fun E ce q9 u t H1 locs1 ht hal hpx hBX hz hk hS hce hcv hcl => ?_) (fun r u t H1 locs1 ht hal hpo hB hz hk hS => ?_)
  · obtain ⟨rfl, hP1, -, hD1⟩ := hBX
    obtain ⟨zP, zD⟩ := va_mid (w1 := []) (w2 := [(ao, .inl (cJ, 1, .inr (.inl fo)))]) hP hD hk hF (by rw [← ht]; exact hP1) hD1
    refine vx_catch (name := nNS) hown [] ((tableOf [(0, 10, 13, 13)]).head (by decide)) [] htab (fun z hz => nomatch hz) (by decide) (by decide) (hts _ mL_told_c13) (va_Nw.use rfl hth.1.1.1) hce hcv hcl ?_
    refine W.eq (g2 := F0 m 13 ls [.ref q9]) rfl ?_
    refine lv_astore (lv' := [(4, .ref q9), (0, .ref h), (1, .int p1), (2, .int p2), (3, .ref ao)]) hx hb dL_told_13 hl (by decide) rfl (fun ls hl => ?_)
    refine lv_iconst (v := (1 : Int32)) hx hb dL_told_15 (by decide) ?_
    exact w_iret (post := fun r (u : Nat → Int64) => (r = 0 ∧ ∃ v : Int32, post v ∧ u = vp_updL fo 0 v.toInt64) ∨ (r = 1 ∧ px ∧ u = fo)) (wf := fun u => wd3 cI cJ cP h ad ad0 ad1 I R CI CJ CR CG EI ER Eq En V ++ [(ao, .inl (cJ, 1, .inr (.inl u)))]) (u := fo) hx hb hr hK zP zD hS (Or.inr ⟨rfl, hpx, rfl⟩) dL_told_16 hlocks
  · obtain ⟨hP1, -, hD1⟩ := hB
    obtain ⟨zP, zD⟩ := va_mid (w1 := []) (w2 := [(ao, .inl (cJ, 1, .inr (.inl fo)))]) hP hD hk hF (by rw [← ht]; exact hP1) hD1
    have zP : va_P (dC, dI) vwCl (wd3 cI cJ cP h ad ad0 ad1 I R CI CJ CR CG EI ER Eq En V ++ [(ao, .inl (cJ, 1, .inr (.inl fo)))]) H1 := zP
    have zD : va_D A (wd3 cI cJ cP h ad ad0 ad1 I R CI CJ CR CG EI ER Eq En V ++ [(ao, .inl (cJ, 1, .inr (.inl fo)))]) := zD
    refine lv_i2l (v := r.toInt64) hx hb dL_told_8 rfl ?_
    refine va_last (f := fo) hx hb hK zP zD hS (wd3 cI cJ cP h ad ad0 ad1 I R CI CJ CR CG EI ER Eq En V).length 1 (get_last _ _) rfl (by unfold vp_in; decide) dL_told_9 (fun H locs hP hD hS => ?_)
    rw [set_last] at hP hD
    refine lv_goto (tgt := 17) hx hb dL_told_10 (by decide) ?_
    refine lv_iconst (v := (0 : Int32)) hx hb dL_told_17 (by decide) ?_
    exact w_iret (post := fun r (u : Nat → Int64) => (r = 0 ∧ ∃ v : Int32, post v ∧ u = vp_updL fo 0 v.toInt64) ∨ (r = 1 ∧ px ∧ u = fo)) (wf := fun u => wd3 cI cJ cP h ad ad0 ad1 I R CI CJ CR CG EI ER Eq En V ++ [(ao, .inl (cJ, 1, .inr (.inl u)))]) (u := vp_updL fo 0 r.toInt64) hx hb hr hK hP hD hS (Or.inl ⟨rfl, r, hpo, rfl⟩) dL_told_18 hlocks
