/-- the two states at the start -/
def u00 (q : Nat) : cS := ((fun _ => 0), (va_up (fun _ _ => 0) 5 (upd (upd (upd (upd (fun _ => 0) 0 (10 : Int32)) 1 (0 : Int32)) 2 (14 : Int32)) 3 (14 : Int32))), (fun _ => 0), (fun _ => 0), (fun _ _ => 0), (fun _ _ => 0), (fun _ => 0), (va_up (fun _ _ => 0) 4 (upd (fun _ => 0) 0 (12 : Int32))), q, 1, ((0, (fun _ => 0), (fun _ _ => 0), (fun _ _ => 0), (fun _ _ _ => 0)) : vS))
def v00 : mS := ((va_up (va_up (va_up (fun _ => 0) 12 (10 : Int32)) 14 (14 : Int32)) 15 (14 : Int32)), (fun _ _ => 0))
section
variable {s : State} {H : Heap} {D : va_G} {cl : List vw_C} {A : Nat → Prop} {tys : List (ClassId × FieldType)} {ws : va_W}
theorem wBlindAO {av : List Value} {sz : Nat} {C : String} : FrameBlind (va_Pc av (fun U => wPreN D cl tys ws sz U ∧ va_AO C U)) := fun a U g mk q => by
  obtain ⟨q0, ⟨⟨q1, qP, qK, qD⟩, qn⟩, qt⟩ := q
  exact ⟨q0, ⟨⟨q1, qP, va_K.moved (u := U) (U := U.calling g mk a) (Vm.Alike.refl U.vm) qK, qD⟩, qn.same rfl⟩, va_AO.moved (u := U) (U := U.calling g mk a) (Vm.Alike.refl U.vm) qt⟩
theorem wPreAO {As : List Value} {C : String} (hn : nst s) (hao : va_AO C s) (hK : va_K D cl tys s) (hP : va_P D cl ws H) (hD : va_D A ws) : PreS s H (va_Pc As (fun U => wPreN D cl tys ws H.size U ∧ va_AO C U)) As :=
  ⟨wBlindAO, fun U hU hW => ⟨rfl, ⟨⟨by rw [hU], by rw [hU]; exact hP, va_K.moved hW.alike hK, hD.weaken (fun _ _ _ _ => trivial)⟩, hn.warm hW⟩, va_AO.moved hW.alike hao⟩⟩
end
set_option maxHeartbeats 4000000 in
set_option maxRecDepth 100000 in
/-- the law from its entry, for any J that the two keep -/
theorem law_start {p : Program} {e : Env} {s : State} {m : MethodId} {below : List Frame} {meth : Method} {c : Code} (l : Launch) (htr : l.stackTraces = false) {J : Nat → Nat → Nat → cS → mS → Prop} (hJ : Agree J) (hJ0 : ∀ q : Nat, J 0 36 33600 (u00 q) v00) {b L : Nat} {xs : Nat → Int32} (hL : L ≤ 3072) (C0 : lw_At p s m meth c b L xs) : W p l e room_1 s m #[Value.ref b] below meth c s.heap [] 0 0 (lw_Z below #[Value.ref b] s) (entryFrame m ([Value.ref b] : List Value).toArray 7) := by
  obtain ⟨hx, hb, hr, hml, hown0, hts0, hX, hbl, hlocks, hgv⟩ := id C0
  have hown : s.vm.findClass RL = some m.cls := hown0
  have hts : ∀ w ∈ vsL_law, w.before #[Value.ref b] s = true := fun w hw => hts0 w (law_in w hw)
  have hb : c.code = cL_law := hb
  have hnA : ∀ a : Nat, a < s.heap.size → ¬ (fun q : Nat => s.heap.size ≤ q) a := fun a h => Nat.not_le.mpr h
  obtain ⟨dC, dI, cI, cJ, hK⟩ := ls_K hts0
  obtain ⟨tL, tM, hst⟩ := ls_st hnA hts0 hgv
  obtain ⟨sa, hth⟩ := ls_th hnA hts0 hgv
  have hn : nst s := ls_nst hts0
  have hao : va_AO "YearBook$Picture" s := va_AO.of (hts0 _ ls_ao)
  have hA : ∀ q : Nat, s.heap.size ≤ q → (fun q : Nat => s.heap.size ≤ q) q := fun _ h => h
  have hS : va_S (fun q : Nat => s.heap.size ≤ q) s.heap s.heap [] := va_S.rf
  have hP : va_P (dC, dI) vwCl [] s.heap := fun k q h => by simp at h
  have hD : va_D (fun q : Nat => s.heap.size ≤ q) [] := ⟨fun i j p q h => by simp at h, fun k q h => by simp at h⟩
  have hl := lv_entry ([.ref b]) (n := 7) (Nat.le_of_ble_eq_true rfl)
  rw [lg_entry_eq]
  generalize (lg_sl ([.ref b]) ++ List.replicate (7 - (lg_sl ([.ref b])).length) Slot.unset).toArray = ls at hl ⊢
  have hl : lv_has ls 7 [(0, .ref b)] := hl
  refine va_new (ci := 3) (fs := [.null, .null, .int 0, .null, .int 0, .null, .int 0, .null, .null]) (C := RX3) (T := TX3) (N := 9) hx hb hts ls_u3 tyX3 tyX3_ok hown (hts _ ls_cl3) (hts _ ls_in3) (hts _ ls_ii3) hK hP hD hS hA rfl (fun j hj => dflX3 j hj) (Nat.le_of_ble_eq_true rfl) (Nat.le_of_ble_eq_true rfl) dL_law_0 (fun h H hP hD hS => ?_)
  have hP : va_P (dC, dI) vwCl [(h, .inr (3, [.null, .null, .int 0, .null, .int 0, .null, .int 0, .null, .null]))] H := hP
  have hD : va_D (fun q : Nat => s.heap.size ≤ q) [(h, .inr (3, [.null, .null, .int 0, .null, .int 0, .null, .int 0, .null, .null]))] := hD
  refine lv_dup hx hb dL_law_3 rfl ?_
  refine va_callv (va_runI (As := []) (rest := [.ref h]) ⟨hx, hb, hml, hown, hts⟩ (tX3_init l dC dI cI cJ h _) (cwI 0 hts gL_law_X3_init rfl rfl rfl (hts _ ls_ii3) (hts _ ls_m3) (hts _ ls_im3) rfl (by decide +kernel) ⟨Nat.le_of_ble_eq_true rfl, Nat.le_of_ble_eq_true rfl⟩) (wPreAO hn hao hK hP hD) rfl rfl hl.1 rfl (lv_room (Nat.le_of_ble_eq_true rfl)) dL_law_4 ⟨Nat.le_of_ble_eq_true rfl, Nat.le_of_ble_eq_true rfl⟩) hS (fun q _ h => wFree hD hS hA q h) (wFree hD hS hA) (fun u t H1 locs ht hvm _ hB _ hk hS => ?_)
  obtain ⟨cP, ad, ad0, ad1, eq0⟩ := u
  obtain ⟨hP1, hK1, hD1⟩ := hB
  rw [ht] at hP1
  have hK := va_K.moved hvm.symm hK1
  have hD1 := hD1.weaken (fun _ _ _ hq => wFree hD ‹va_S _ _ H []› hA _ hq)
  refine lv_astore_n (lv' := [(1, .ref h), (0, .ref b)]) hx hb dL_law_7 rfl hl (by decide) rfl (fun ls hl => ?_)
  refine va_new (ci := 4) (fs := [.null, .null, .int 0, .null, .null, .null, .null, .null, .null, .null, .null, .int 0, .int 0, .int 0, .int 0, .int 0, .int 0, .null, .int 0, .int 0, .null, .null, .null, .int 0, .null, .null, .null]) (C := RX4) (T := TX4) (N := 27) hx hb hts ls_u4 tyX4 tyX4_ok hown (hts _ ls_cl4) (hts _ ls_in4) (hts _ ls_ii4) hK hP1 hD1 hS hA rfl (fun j hj => dflX4 j hj) (Nat.le_of_ble_eq_true rfl) (Nat.le_of_ble_eq_true rfl) dL_law_8 (fun hm H hP hD hS => ?_)
  refine lv_dup hx hb dL_law_11 rfl ?_
  refine x_callv (tys := [(cI, .int)]) (w1 := wL3 cI cJ cP h ad ad0 ad1 (u00 eq0)) (ws := [(hm, .inr (4, [.null, .null, .int 0, .null, .null, .null, .null, .null, .null, .null, .null, .int 0, .int 0, .int 0, .int 0, .int 0, .int 0, .null, .int 0, .int 0, .null, .null, .null, .int 0, .null, .null, .null]))]) (w2 := []) (wf := fun u : Nat → Nat => wd4 cI hm u (va_up (va_up (va_up (fun _ => 0) 12 (10 : Int32)) 14 (14 : Int32)) 15 (14 : Int32)) (fun _ _ => 0)) (va_runI (As := []) (rest := [.ref hm]) ⟨hx, hb, hml, hown, hts⟩ (tX4_init l dC dI cI hm _) (cwI 0 hts gL_law_X4_init rfl rfl rfl (hts _ ls_ii4) (hts _ ls_m4) (hts _ ls_im4) rfl (by decide +kernel) ⟨Nat.le_of_ble_eq_true rfl, Nat.le_of_ble_eq_true rfl⟩) (wPreS (hK.sub [0] rfl) (vP_r (a := wL3 cI cJ cP h ad ad0 ad1 (u00 eq0)) hP) (vD_r (a := wL3 cI cJ cP h ad ad0 ad1 (u00 eq0)) hD)) rfl rfl hl.1 rfl (lv_room (Nat.le_of_ble_eq_true rfl)) dL_law_12 ⟨Nat.le_of_ble_eq_true rfl, Nat.le_of_ble_eq_true rfl⟩) hP hD hS hA (fun adm H locs _ hP hD hS => ?_)
  refine lv_astore_n (lv' := [(2, .ref hm), (1, .ref h), (0, .ref b)]) hx hb dL_law_15 rfl hl (by decide) rfl (fun ls hl => ?_)
  refine lv_iconst (v := (1 : Int32)) hx hb dL_law_16 (by decide) ?_
  refine va_newa (atype := .long) (ty := .long) (N' := 1) (a0 := (1, .inr (.inl (fun _ => 0)))) hx hb (hts _ ls_al) rfl hK hP hD hS hA (fun cA => rfl) (by decide) (by decide) (by decide) (Nat.le_of_ble_eq_true rfl) (Nat.le_of_ble_eq_true rfl) dL_law_17 (fun ao cA1 H hK1 hP hD hS => ?_)
  have ec1 : cA1 = cJ := arr_long hK hK1 (i := 1) (j := 3) rfl rfl
  rw [ec1] at hP hD
  refine lv_astore_n (lv' := [(3, .ref ao), (2, .ref hm), (1, .ref h), (0, .ref b)]) hx hb dL_law_19 rfl hl (by decide) rfl (fun ls hl => ?_)
  refine lv_iconst (v := (0 : Int32)) hx hb dL_law_20 (by decide) ?_
  refine lv_istore (lv' := [(4, .int (nI (6 * 0))), (3, .ref ao), (2, .ref hm), (1, .ref h), (0, .ref b)]) hx hb dL_law_21 hl (by decide) rfl (fun ls hl => ?_)
  refine W.widen (k := 36) (n := 33600) (Nat.le_of_ble_eq_true rfl) (Nat.le_of_ble_eq_true rfl) ?_
  have hP2 : va_P (dC, dI) vwCl (wL cI cJ cP h ad ad0 ad1 hm adm ao (u00 eq0) v00 (fun _ => 0)) H := by
    have z := hP
    rw [List.append_nil, List.append_assoc] at z
    exact z
  have hD2 : va_D (fun q : Nat => s.heap.size ≤ q) (wL cI cJ cP h ad ad0 ad1 hm adm ao (u00 eq0) v00 (fun _ => 0)) := by
    have z := hD
    rw [List.append_nil, List.append_assoc] at z
    exact z
  exact law_loop hJ ⟨hx, hb, hr, hml, hown, hts, hX, hbl, hlocks, hL, htr, hn, hK, hth, hst⟩ 513 0 rfl 36 33600 (u00 eq0) v00 (fun _ => 0) H locs ls (by omega) (by omega) (hJ0 eq0) hP2 hD2 hS (lv_sub hl [4, 3, 2, 1, 0] rfl)
