theorem pm5 {α : Type} (a b c d e : α) : [a, b, c, d, e].Perm ([c] ++ [a, b, d, e]) := List.perm_append_comm_assoc [a, b] [c] [d, e]
section
variable {p : Program} {l : Launch} {e : Env} {R : Room} {s : State} {m : MethodId} {args : Array Value} {below : List Frame} {meth : Method} {c : Code} {H : Heap} {locs : List Loc} {cells slots : Nat} {Q : State → Prop}
variable {pc : Nat} {ls : Array Slot} {rest st0 : List Value} {D : va_G} {cl : List vw_C} {A : Nat → Prop} {tys : List (ClassId × FieldType)} {ws : va_W}
theorem w_callq {S : Type} {post : Option Nat → S → Prop} {wf : S → va_W} {a : Array Value} {mc ms : Nat} (hr : va_Run p l e R s m args below meth c H locs cells slots mc ms (F0 m pc ls st0) rest (va_Qq post (wAt D cl tys (va_A ws H.size) wf) (va_A ws H.size) a) (va_A ws H.size)) (hD : va_D A ws) (hS : va_S A s.heap H locs) (hA : ∀ q, s.heap.size ≤ q → A q)
    (kk : ∀ (r : Option Nat) (u : S) (H1 : Heap) (locs1 : List Loc), post r u → va_P D cl (wf u) H1 → va_D A (wf u) → va_S A s.heap H1 locs1 → W p l e R s m args below meth c H1 locs1 (cells + mc) (slots + ms) Q (F0 m (pc + 3) ls (va_rf r :: rest))) : W p l e R s m args below meth c H locs cells slots Q (F0 m pc ls st0) :=
  va_callq hr hS (fun q _ h => wFree hD hS hA q h) (wFree hD hS hA) (fun r u t H1 locs1 ht _ hw hB _ _ hS1 => kk r u H1 locs1 hw (by rw [← ht]; exact hB.1) (hB.2.2.weaken (fun _ _ _ hq => wFree hD hS hA _ hq)) hS1)
end
section
variable (cI cJ cP : ClassId) (h : Nat) (ad ad0 ad1 : Nat → Nat) (I : Nat → Int32) (R : Nat → Nat → Int32) (CI : Nat → Int32) (CJ : Nat → Int64) (CR : Nat → Nat → Int32) (CG : Nat → Nat → Int64) (EI : Nat → Int32) (ER : Nat → Nat → Int32) (Eq En : Nat) (V : vS)
/-- the book's own cells but the consents -/
abbrev wd3c (cI cP : ClassId) (h : Nat) (ad : Nat → Nat) (I : Nat → Int32) (R : Nat → Nat → Int32) (pa : Nat → Option Nat) : va_W := [(h, .inr (3, [.ref (ad 0), .ref (ad 1), .int (I 2), .ref (ad 3), .int (I 4), .ref (ad 5), .int (I 6), .ref (ad 7), .ref (ad 8)])), (ad 0, .inl (cI, 16, .inl (R 0))), (ad 3, .inl (cP, 14, .inr (.inr (.inr (.inr pa))))), (ad 5, .inl (cI, 4, .inl (R 5)))]
theorem p3o (pa : Nat → Option Nat) : (wd3o cI cP h ad I R pa).Perm ([(ad 1, .inl (cI, 16, .inl (R 1)))] ++ wd3c cI cP h ad I R pa) := pm5 _ _ _ _ _
theorem p3x (w X : va_W) (pa : Nat → Option Nat) : (w ++ (wd3o cI cP h ad I R pa ++ X)).Perm ((w ++ [(ad 1, .inl (cI, 16, .inl (R 1)))]) ++ (wd3c cI cP h ad I R pa ++ X)) := by
  have e : (w ++ [((ad 1, .inl (cI, 16, .inl (R 1))) : Nat × va_E)]) ++ (wd3c cI cP h ad I R pa ++ X) = w ++ (([((ad 1, .inl (cI, 16, .inl (R 1))) : Nat × va_E)] ++ wd3c cI cP h ad I R pa) ++ X) := by
    rw [List.append_assoc, List.append_assoc]
  rw [e]
  exact List.Perm.append_left _ (List.Perm.append_right _ (p3o cI cP h ad I R pa))
theorem p3l {k : Nat} (hk : k < pvN V) : (wd3 cI cJ cP h ad ad0 ad1 I R CI CJ CR CG EI ER Eq En V).Perm ((wd2 cI (pvH V k) (pvA V k) (pvI V k) (pvR V k) ++ [(ad 1, .inl (cI, 16, .inl (R 1)))]) ++ (wd3c cI cP h ad I R (pvP V) ++ (wd0 cI cJ (ad 7) ad0 CI CJ CR CG ++ (wd1 cI (ad 8) ad1 EI ER Eq En ++ wdX cI V k)))) :=
  (p3v cI cJ cP h ad ad0 ad1 I R CI CJ CR CG EI ER Eq En V hk).trans (p3x cI cP h ad I R _ _ _)
theorem p3m {k : Nat} (hk : k < pvN V) (I' : Nat → Int32) (R' : Nat → Nat → Int32) : ((wd2 cI (pvH V k) (pvA V k) I' R' ++ ([(ad 1, .inl (cI, 16, .inl (R 1)))] : va_W)) ++ (wd3c cI cP h ad I R (pvP V) ++ (wd0 cI cJ (ad 7) ad0 CI CJ CR CG ++ (wd1 cI (ad 8) ad1 EI ER Eq En ++ wdX cI V k)))).Perm (wd3 cI cJ cP h ad ad0 ad1 I R CI CJ CR CG EI ER Eq En (pvW V k I' R')) :=
  ((p3x cI cP h ad I R _ _ _).symm).trans (p3w cI cJ cP h ad ad0 ad1 I R CI CJ CR CG EI ER Eq En V hk I' R')
end
theorem pvP_at (V : vS) {k : Nat} (hk : k < pvN V) : pvP V k = some (pvH V k) := by simp [pvP, hk]
set_option maxHeartbeats 4000000 in
set_option maxRecDepth 100000 in
theorem tX3_pictureAt (l : Launch) (dC : Nat → ClassId) (dI : Nat → Nat → Nat) (cI cJ cP : ClassId) (h : Nat) (ad ad0 ad1 : Nat → Nat) (sz : Nat) (p1 : Int32) (I : Nat → Int32) (R : Nat → Nat → Int32) (CI : Nat → Int32) (CJ : Nat → Int64) (CR : Nat → Nat → Int32) (CG : Nat → Nat → Int64) (EI : Nat → Int32) (ER : Nat → Nat → Int32) (Eq En : Nat) (V : vS) (hI : I 4 = nI (pvN V)) (hN : pvN V ≤ 14) :
    Met l yX3_pictureAt wsX3_pictureAt ({ frames := 0, cells := 0, slots := 0, locals := 0 } : Room) (va_Pc [.ref h, .int p1] (wPreN (dC, dI) vwCl [(cI, .int), (cJ, .long), (cP, .object "YearBook$Picture")] (wd3 cI cJ cP h ad ad0 ad1 I R CI CJ CR CG EI ER Eq En V) sz))
      (va_Qq (fun r (_ : Unit) => ((p1 < 0 ∨ I 4 ≤ p1) ∧ r = none) ∨ ∃ k, k < pvN V ∧ p1 = nI k ∧ r = some (pvH V k)) (wAt (dC, dI) vwCl [(cI, .int), (cJ, .long), (cP, .object "YearBook$Picture")] (va_A (wd3 cI cJ cP h ad ad0 ad1 I R CI CJ CR CG EI ER Eq En V) sz) (fun _ : Unit => wd3 cI cJ cP h ad ad0 ad1 I R CI CJ CR CG EI ER Eq En V)) (va_A (wd3 cI cJ cP h ad ad0 ad1 I R CI CJ CR CG EI ER Eq En V) sz)) 0 0 (va_A (wd3 cI cJ cP h ad ad0 ad1 I R CI CJ CR CG EI ER Eq En V) sz) := by
  refine Met.ofW (cc := cX3_pictureAt) (maxL := 2) (ret := (some (.object "YearBook$Picture"))) (by decide) rfl ?_
  intro p e s m args below meth c s₁ B hml hv
  obtain ⟨rfl, ⟨hsz, hP, hK, hD0⟩, hn⟩ := hv
  have hx := B.exec
  have hb := B.bytes
  have hr := B.returns
  have hts := atoms_spec (ws := wsX3_pictureAt) B.pre
  have hown : s.vm.findClass RX3 = some m.cls := findClass_of_methodNamed B.named
  have hlocks := B.notSynchronized
  subst hsz
  have hD := hD0.self (sz := s.heap.size)
  generalize hAe : va_A (wd3 cI cJ cP h ad ad0 ad1 I R CI CJ CR CG EI ER Eq En V) s.heap.size = A at hD ⊢
  have hA : ∀ q : Nat, s.heap.size ≤ q → A q := fun q h => by rw [← hAe]; exact Or.inr h
  have hS : va_S A s.heap s.heap [] := va_S.rf
  have hl := lv_entry ([.ref h, .int p1]) (n := 2) (Nat.le_of_ble_eq_true rfl)
  rw [lg_entry_eq]
  generalize (lg_sl ([.ref h, .int p1]) ++ List.replicate (2 - (lg_sl ([.ref h, .int p1])).length) Slot.unset).toArray = ls at hl ⊢
  have hl : lv_has ls 2 [(0, .ref h), (1, .int p1)] := hl
  have hin : ∀ w ∈ u_ws RX3 TX3 9, w ∈ wsX3_pictureAt := by decide +kernel
  refine lv_iload_n hx hb dX3_pictureAt_0 rfl (lv_at hl 1 rfl) ?_
  refine lv_if_lt (tgt := 21) hx hb dX3_pictureAt_1 (by decide) (fun hc => ?_) (fun hc => ?_)
  · refine lv_null hx hb dX3_pictureAt_21 ?_
    exact W.aret (v := .null) hx hb hr (Or.inl ⟨_, rfl⟩) (Or.inl rfl) (fun t ht hW => ⟨⟨none, (), rfl, Or.inl ⟨Or.inl hc, rfl⟩, by rw [ht]; exact hP, va_K.moved hW.alike hK, hD⟩, hS.F ht⟩) hS.2.2 dX3_pictureAt_22 hlocks
  · refine lv_iload_n hx hb dX3_pictureAt_4 rfl (lv_at hl 1 rfl) ?_
    refine lv_aload_n hx hb dX3_pictureAt_5 rfl (lv_at hl 0 rfl) ?_
    refine va_get (D := (dC, dI)) (ci := 3) (v := .int (I 4)) (C := RX3) (T := TX3) (N := 9) hx hb hts hin hown hK hP 0 rfl rfl 4 (by decide) (hts (.fieldLink RX3 51 "YearBook" "pictureCount" "I") (by decide +kernel)) (fun _ h9 => h9) rfl dX3_pictureAt_6 ?_
    refine lv_icmp_ge (tgt := 21) hx hb dX3_pictureAt_9 (by decide) (fun hc2 => ?_) (fun hc2 => ?_)
    · refine lv_null hx hb dX3_pictureAt_21 ?_
      exact W.aret (v := .null) hx hb hr (Or.inl ⟨_, rfl⟩) (Or.inl rfl) (fun t ht hW => ⟨⟨none, (), rfl, Or.inl ⟨Or.inr hc2, rfl⟩, by rw [ht]; exact hP, va_K.moved hW.alike hK, hD⟩, hS.F ht⟩) hS.2.2 dX3_pictureAt_22 hlocks
    · obtain ⟨k, hk31, hk⟩ := nI_of hc
      subst hk
      have hkn : k < pvN V := by
        rcases Nat.lt_or_ge k (pvN V) with g | g
        · exact g
        · exact absurd (by rw [hI]; exact nI_le g hk31) hc2
      have hk14 : k < 14 := by omega
      have ek : (nI k).toNatClampNeg = k := nI_clamp hk31
      refine lv_aload_n hx hb dX3_pictureAt_12 rfl (lv_at hl 0 rfl) ?_
      refine va_get (D := (dC, dI)) (ci := 3) (v := .ref (ad 3)) (C := RX3) (T := TX3) (N := 9) hx hb hts hin hown hK hP 0 rfl rfl 3 (by decide) (hts (.fieldLink RX3 18 "YearBook" "pictures" "[LYearBook$Picture;") (by decide +kernel)) (fun _ h9 => h9) rfl dX3_pictureAt_13 ?_
      refine lv_iload_n hx hb dX3_pictureAt_16 rfl (lv_at hl 1 rfl) ?_
      refine va_aldq (f := pvP V) hx hb hK hP 3 2 rfl rfl (vp_in_nI hk14 (by decide)) dX3_pictureAt_17 ?_
      refine lv_goto (tgt := 22) hx hb dX3_pictureAt_18 (by decide) ?_
      rw [ek, pvP_at V hkn]
      exact W.aret (v := va_rf (some (pvH V k))) hx hb hr (Or.inl ⟨_, rfl⟩) (Or.inr ⟨_, rfl⟩) (fun t ht hW => ⟨⟨some (pvH V k), (), rfl, Or.inr ⟨k, hkn, rfl, rfl⟩, by rw [ht]; exact hP, va_K.moved hW.alike hK, hD⟩, hS.F ht⟩) hS.2.2 dX3_pictureAt_22 hlocks
