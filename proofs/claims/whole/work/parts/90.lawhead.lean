/-- what stands through the law's loop -/
def LawC (p : Program) (l : Launch) (s : State) (m : MethodId) (meth : Method) (c : Code) (b L : Nat) (xs : Nat → Int32) (dC : Nat → ClassId) (dI : Nat → Nat → Nat) (cI cJ cP : ClassId) (sa tL tM : Nat) : Prop :=
  p.tables.exec = Jvm.exec ∧ c.code = cL_law ∧ meth.sig.returnType = ret ∧ c.maxLocals = 7 ∧ s.vm.findClass RL = some m.cls ∧ (∀ w ∈ vsL_law, w.before #[Value.ref b] s = true) ∧ va_X b L xs s s.heap ∧ b < s.heap.size ∧ meth.locks = false ∧ L ≤ 3072 ∧ l.stackTraces = false ∧ nst s ∧ va_K (dC, dI) vwCl [(cI, .int), (cJ, .long), (cP, .object "YearBook$Picture")] s ∧ thF sa (fun q : Nat => s.heap.size ≤ q) s s.heap ∧ stF tL tM (fun q : Nat => s.heap.size ≤ q) s s.heap
theorem li {i L : Nat} (hi : i + 6 ≤ L) (hL : L ≤ 3072) (j : Nat) (hj : j < 6) : vp_in (nI i + nI j) L := by rw [nI_add]; exact vp_in_nI (by omega) (by omega)
theorem li1 {i L : Nat} (hi : i + 6 ≤ L) (hL : L ≤ 3072) : vp_in (nI i + 1) L := li hi hL 1 (by decide)
theorem li2 {i L : Nat} (hi : i + 6 ≤ L) (hL : L ≤ 3072) : vp_in (nI i + 2) L := li hi hL 2 (by decide)
theorem li3 {i L : Nat} (hi : i + 6 ≤ L) (hL : L ≤ 3072) : vp_in (nI i + 3) L := li hi hL 3 (by decide)
theorem li4 {i L : Nat} (hi : i + 6 ≤ L) (hL : L ≤ 3072) : vp_in (nI i + 4) L := li hi hL 4 (by decide)
theorem li5 {i L : Nat} (hi : i + 6 ≤ L) (hL : L ≤ 3072) : vp_in (nI i + 5) L := li hi hL 5 (by decide)
section
variable {s : State} {H : Heap} {locs : List Loc} {D : va_G} {cl : List vw_C} {A : Nat → Prop} {tys : List (ClassId × FieldType)} {ws : va_W}
theorem stF.go {tL tM : Nat} {B : Nat → Prop} {U : State} (h : stF tL tM A s s.heap) (hS : va_S A s.heap H locs) (hU : U.heap = H) (hW : s.WarmedH U.vm) (hB : ∀ q, B q → A q) : stF tL tM B U U.heap := by
  rw [hU]
  exact (stF.moved hW.alike (h.kept hS.2.1)).narrow hB
theorem wBlindF {av : List Value} {sz tL tM : Nat} {B : Nat → Prop} : FrameBlind (va_Pc av (fun U => wPreN D cl tys ws sz U ∧ stF tL tM B U U.heap)) := fun a U g mk q => by
  obtain ⟨q0, ⟨⟨q1, qP, qK, qD⟩, qn⟩, qt⟩ := q
  exact ⟨q0, ⟨⟨q1, qP, va_K.moved (u := U) (U := U.calling g mk a) (Vm.Alike.refl U.vm) qK, qD⟩, qn.same rfl⟩, stF.moved (u := U) (U := U.calling g mk a) (Vm.Alike.refl U.vm) qt⟩
theorem wPreVF {b tL tM : Nat} {As : List Value} {q0 ci : Nat} {q : vw_C} {fs : List Value} (hn : nst s) (hst : stF tL tM A s s.heap) (hS : va_S A s.heap H locs) (hA : ∀ q, s.heap.size ≤ q → A q) (hK : va_K D cl tys s) (hP : va_P D cl ws H) (hD : va_D A ws) (hc : cl[ci]? = some q) (he : ws[q0]? = some (b, .inr (ci, fs))) : PreV s H q.1 b (va_Pc (.ref b :: As) (fun U => wPreN D cl tys ws H.size U ∧ stF tL tM (va_A ws H.size) U U.heap)) As :=
  ⟨wBlindF, va_recv hK hP hc he, fun U hU hW => ⟨rfl, ⟨⟨by rw [hU], by rw [hU]; exact hP, va_K.moved hW.alike hK, hD.weaken (fun _ _ _ _ => trivial)⟩, hn.warm hW⟩, hst.go hS hU hW (wFree hD hS hA)⟩⟩
theorem wPreST {sa : Nat} {As : List Value} (hn : nst s) (hth : thF sa A s s.heap) (hS : va_S A s.heap H locs) (hA : ∀ q, s.heap.size ≤ q → A q) (hK : va_K D cl tys s) (hP : va_P D cl ws H) (hD : va_D A ws) : PreS s H (va_Pc As (fun U => wPreN D cl tys ws H.size U ∧ thF sa (va_A ws H.size) U U.heap)) As :=
  ⟨wBlindT, fun U hU hW => ⟨rfl, ⟨⟨by rw [hU], by rw [hU]; exact hP, va_K.moved hW.alike hK, hD.weaken (fun _ _ _ _ => trivial)⟩, hn.warm hW⟩, hth.go hS hU hW (wFree hD hS hA)⟩⟩
end
