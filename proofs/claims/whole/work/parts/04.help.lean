/-! helpers: whole-world calls and ends, static ends, switches -/
section
variable {p : Program} {l : Launch} {e : Env} {R : Room} {s : State} {m : MethodId} {args : Array Value} {below : List Frame} {meth : Method} {c : Code} {H : Heap} {locs : List Loc} {cells slots : Nat} {Q : State → Prop}
variable {pc : Nat} {ls : Array Slot} {rest st0 : List Value} {D : va_G} {cl : List vw_C} {A : Nat → Prop} {tys : List (ClassId × FieldType)} {ws : va_W} {cc : ByteArray}
abbrev wPre (D : va_G) (cl : List vw_C) (tys : List (ClassId × FieldType)) (ws : va_W) (sz : Nat) : State → Prop := fun U => U.heap.size = sz ∧ va_P D cl ws U.heap ∧ va_K D cl tys U ∧ va_D (fun _ => True) ws
abbrev wAt {S : Type} (D : va_G) (cl : List vw_C) (tys : List (ClassId × FieldType)) (A : Nat → Prop) (wf : S → va_W) : S → State → Prop := fun u t => va_P D cl (wf u) t.heap ∧ va_K D cl tys t ∧ va_D A (wf u)
theorem wBlind {av : List Value} {sz : Nat} : FrameBlind (va_Pc av (wPre D cl tys ws sz)) := fun a U g mk q => by
  obtain ⟨q0, q1, qP, qK, qD⟩ := q
  exact ⟨q0, q1, qP, va_K.moved (u := U) (U := U.calling g mk a) (Vm.Alike.refl U.vm) qK, qD⟩
theorem wPreV {b : Nat} {As : List Value} {q0 ci : Nat} {q : vw_C} {fs : List Value} (hK : va_K D cl tys s) (hP : va_P D cl ws H) (hD : va_D A ws) (hc : cl[ci]? = some q) (he : ws[q0]? = some (b, .inr (ci, fs))) : PreV s H q.1 b (va_Pc (.ref b :: As) (wPre D cl tys ws H.size)) As :=
  ⟨wBlind, va_recv hK hP hc he, fun U hU hW => ⟨rfl, by rw [hU], by rw [hU]; exact hP, va_K.moved hW.alike hK, hD.weaken (fun _ _ _ _ => trivial)⟩⟩
theorem wFree (hD : va_D A ws) (hS : va_S A s.heap H locs) (hA : ∀ q, s.heap.size ≤ q → A q) : ∀ q, va_A ws H.size q → A q := by
  intro q h
  rcases h with ⟨k, e, h⟩ | h
  · exact hD.2 k (q, e) h
  · exact hA q (Nat.le_trans hS.1 h)
theorem w_calli {S : Type} {post : Int32 → S → Prop} {wf : S → va_W} {a : Array Value} {mc ms : Nat} (hr : va_Run p l e R s m args below meth c H locs cells slots mc ms (F0 m pc ls st0) rest (va_Qi post (wAt D cl tys (va_A ws H.size) wf) (va_A ws H.size) a) (va_A ws H.size)) (hD : va_D A ws) (hS : va_S A s.heap H locs) (hA : ∀ q, s.heap.size ≤ q → A q)
    (kk : ∀ (r : Int32) (u : S) (H1 : Heap) (locs1 : List Loc), post r u → va_P D cl (wf u) H1 → va_D A (wf u) → va_S A s.heap H1 locs1 → W p l e R s m args below meth c H1 locs1 (cells + mc) (slots + ms) Q (F0 m (pc + 3) ls (.int r :: rest))) : W p l e R s m args below meth c H locs cells slots Q (F0 m pc ls st0) :=
  va_calli hr hS (fun q _ h => wFree hD hS hA q h) (wFree hD hS hA) (fun r u t H1 locs1 ht _ hw hB _ _ hS1 => kk r u H1 locs1 hw (by rw [← ht]; exact hB.1) (hB.2.2.weaken (fun _ _ _ hq => wFree hD hS hA _ hq)) hS1)
theorem w_calll {S : Type} {post : Int64 → S → Prop} {wf : S → va_W} {a : Array Value} {mc ms : Nat} (hr : va_Run p l e R s m args below meth c H locs cells slots mc ms (F0 m pc ls st0) rest (va_Ql post (wAt D cl tys (va_A ws H.size) wf) (va_A ws H.size) a) (va_A ws H.size)) (hD : va_D A ws) (hS : va_S A s.heap H locs) (hA : ∀ q, s.heap.size ≤ q → A q)
    (kk : ∀ (r : Int64) (u : S) (H1 : Heap) (locs1 : List Loc), post r u → va_P D cl (wf u) H1 → va_D A (wf u) → va_S A s.heap H1 locs1 → W p l e R s m args below meth c H1 locs1 (cells + mc) (slots + ms) Q (F0 m (pc + 3) ls (.long r :: rest))) : W p l e R s m args below meth c H locs cells slots Q (F0 m pc ls st0) :=
  va_calll hr hS (fun q _ h => wFree hD hS hA q h) (wFree hD hS hA) (fun r u t H1 locs1 ht _ hw hB _ _ hS1 => kk r u H1 locs1 hw (by rw [← ht]; exact hB.1) (hB.2.2.weaken (fun _ _ _ hq => wFree hD hS hA _ hq)) hS1)
theorem w_callv {S : Type} {post : S → Prop} {wf : S → va_W} {a : Array Value} {mc ms : Nat} (hr : va_Run p l e R s m args below meth c H locs cells slots mc ms (F0 m pc ls st0) rest (va_Qv post (wAt D cl tys (va_A ws H.size) wf) (va_A ws H.size) a) (va_A ws H.size)) (hD : va_D A ws) (hS : va_S A s.heap H locs) (hA : ∀ q, s.heap.size ≤ q → A q)
    (kk : ∀ (u : S) (H1 : Heap) (locs1 : List Loc), post u → va_P D cl (wf u) H1 → va_D A (wf u) → va_S A s.heap H1 locs1 → W p l e R s m args below meth c H1 locs1 (cells + mc) (slots + ms) Q (F0 m (pc + 3) ls rest)) : W p l e R s m args below meth c H locs cells slots Q (F0 m pc ls st0) :=
  va_callv hr hS (fun q _ h => wFree hD hS hA q h) (wFree hD hS hA) (fun u t H1 locs1 ht _ hw hB _ _ hS1 => kk u H1 locs1 hw (by rw [← ht]; exact hB.1) (hB.2.2.weaken (fun _ _ _ hq => wFree hD hS hA _ hq)) hS1)
theorem w_iret {S : Type} {post : Int32 → S → Prop} {wf : S → va_W} {u : S} {v : Int32} (hx : p.tables.exec = Jvm.exec) (hb : c.code = cc) (hr : meth.sig.returnType = some .int) (hK : va_K D cl tys s) (hP : va_P D cl (wf u) H) (hD : va_D A (wf u)) (hS : va_S A s.heap H locs) (hq : post v u) (hdg : decode cc pc = .ok (.ireturn, 1)) (hlocks : meth.locks = false) :
    W p l e R s m args below meth c H locs cells slots (MQ below (va_Qi post (wAt D cl tys A wf) A) args s cells slots A) (F0 m pc ls [.int v]) :=
  W.iret hx hb hr (fun t ht hW => ⟨⟨v, u, rfl, hq, by rw [ht]; exact hP, va_K.moved hW.alike hK, hD⟩, hS.F ht⟩) hS.2.2 hdg hlocks
theorem w_zret {S : Type} {post : Int32 → S → Prop} {wf : S → va_W} {u : S} {v : Int32} (hx : p.tables.exec = Jvm.exec) (hb : c.code = cc) (hr : meth.sig.returnType = some .boolean) (hn : narrow .boolean (.int v) = .int v) (hK : va_K D cl tys s) (hP : va_P D cl (wf u) H) (hD : va_D A (wf u)) (hS : va_S A s.heap H locs) (hq : post v u) (hdg : decode cc pc = .ok (.ireturn, 1)) (hlocks : meth.locks = false) :
    W p l e R s m args below meth c H locs cells slots (MQ below (va_Qi post (wAt D cl tys A wf) A) args s cells slots A) (F0 m pc ls [.int v]) :=
  W.zret hx hb hr hn (fun t ht hW => ⟨⟨v, u, rfl, hq, by rw [ht]; exact hP, va_K.moved hW.alike hK, hD⟩, hS.F ht⟩) hS.2.2 hdg hlocks
theorem w_lret {S : Type} {post : Int64 → S → Prop} {wf : S → va_W} {u : S} {v : Int64} (hx : p.tables.exec = Jvm.exec) (hb : c.code = cc) (hr : meth.sig.returnType = some .long) (hK : va_K D cl tys s) (hP : va_P D cl (wf u) H) (hD : va_D A (wf u)) (hS : va_S A s.heap H locs) (hq : post v u) (hdg : decode cc pc = .ok (.lreturn, 1)) (hlocks : meth.locks = false) :
    W p l e R s m args below meth c H locs cells slots (MQ below (va_Ql post (wAt D cl tys A wf) A) args s cells slots A) (F0 m pc ls [.long v]) :=
  W.lret hx hb hr (fun t ht hW => ⟨⟨v, u, rfl, hq, by rw [ht]; exact hP, va_K.moved hW.alike hK, hD⟩, hS.F ht⟩) hS.2.2 hdg hlocks
theorem w_vret {S : Type} {post : S → Prop} {wf : S → va_W} {u : S} (hx : p.tables.exec = Jvm.exec) (hb : c.code = cc) (hr : meth.sig.returnType = none) (hK : va_K D cl tys s) (hP : va_P D cl (wf u) H) (hD : va_D A (wf u)) (hS : va_S A s.heap H locs) (hq : post u) (hdg : decode cc pc = .ok (.return_, 1)) (hlocks : meth.locks = false) :
    W p l e R s m args below meth c H locs cells slots (MQ below (va_Qv post (wAt D cl tys A wf) A) args s cells slots A) (F0 m pc ls []) :=
  W.vret hx hb hr (fun t ht hW => ⟨⟨u, rfl, hq, by rw [ht]; exact hP, va_K.moved hW.alike hK, hD⟩, hS.F ht⟩) hS.2.2 hdg hlocks
theorem s_iret {post : Int32 → Prop} {v : Int32} (hx : p.tables.exec = Jvm.exec) (hb : c.code = cc) (hr : meth.sig.returnType = some .int) (hq : post v) (hdg : decode cc pc = .ok (.ireturn, 1)) (hlocks : meth.locks = false) :
    W p l e R s m args below meth c s.heap [] cells slots (MQ below (vp_Si post) args s cells slots (fun _ => False)) (F0 m pc ls [.int v]) :=
  W.iret hx hb hr (fun t ht _ => ⟨v, rfl, hq, ht⟩) (fun _ h => nomatch h) hdg hlocks
theorem s_zret {post : Int32 → Prop} {v : Int32} (hx : p.tables.exec = Jvm.exec) (hb : c.code = cc) (hr : meth.sig.returnType = some .boolean) (hn : narrow .boolean (.int v) = .int v) (hq : post v) (hdg : decode cc pc = .ok (.ireturn, 1)) (hlocks : meth.locks = false) :
    W p l e R s m args below meth c s.heap [] cells slots (MQ below (vp_Si post) args s cells slots (fun _ => False)) (F0 m pc ls [.int v]) :=
  W.zret hx hb hr hn (fun t ht _ => ⟨v, rfl, hq, ht⟩) (fun _ h => nomatch h) hdg hlocks
theorem s_lret {post : Int64 → Prop} {v : Int64} (hx : p.tables.exec = Jvm.exec) (hb : c.code = cc) (hr : meth.sig.returnType = some .long) (hq : post v) (hdg : decode cc pc = .ok (.lreturn, 1)) (hlocks : meth.locks = false) :
    W p l e R s m args below meth c s.heap [] cells slots (MQ below (vp_Sl post) args s cells slots (fun _ => False)) (F0 m pc ls [.long v]) :=
  W.lret hx hb hr (fun t ht _ => ⟨v, rfl, hq, ht⟩) (fun _ h => nomatch h) hdg hlocks
end
theorem ne_toInt {x n : Int32} (h : ¬ x = n) : x.toInt ≠ n.toInt := fun e => h (Int32.toInt_inj.mp e)
section
variable {D : va_G} {cl : List vw_C} {A : Nat → Prop} {H H1 : Heap} {a b w1 w2 ws w' : va_W}
theorem vP_l (h : va_P D cl (a ++ b) H) : va_P D cl a H := fun k q hk => h k q (by
  rw [List.getElem?_append_left (List.getElem?_eq_some_iff.mp hk).1]; exact hk)
theorem vP_r (h : va_P D cl (a ++ b) H) : va_P D cl b H := fun k q hk => h (a.length + k) q (by
  rw [List.getElem?_append_right (Nat.le_add_right _ _), Nat.add_sub_cancel_left]; exact hk)
theorem vD_l (h : va_D A (a ++ b)) : va_D A a :=
  ⟨fun i j p q hi hj e => h.1 i j p q (by rw [List.getElem?_append_left (List.getElem?_eq_some_iff.mp hi).1]; exact hi) (by rw [List.getElem?_append_left (List.getElem?_eq_some_iff.mp hj).1]; exact hj) e,
   fun k q hk => h.2 k q (by rw [List.getElem?_append_left (List.getElem?_eq_some_iff.mp hk).1]; exact hk)⟩
theorem vD_r (h : va_D A (a ++ b)) : va_D A b :=
  ⟨fun i j p q hi hj e => Nat.add_left_cancel (h.1 (a.length + i) (a.length + j) p q (by rw [List.getElem?_append_right (Nat.le_add_right _ _), Nat.add_sub_cancel_left]; exact hi) (by rw [List.getElem?_append_right (Nat.le_add_right _ _), Nat.add_sub_cancel_left]; exact hj) e),
   fun k q hk => h.2 (a.length + k) q (by rw [List.getElem?_append_right (Nat.le_add_right _ _), Nat.add_sub_cancel_left]; exact hk)⟩
theorem vD_x (h : va_D A (a ++ b)) : ∀ (i j : Nat) (p q : Nat × va_E), a[i]? = some p → b[j]? = some q → p.1 ≠ q.1 := by
  intro i j p q hi hj e
  have hl := (List.getElem?_eq_some_iff.mp hi).1
  have := h.1 i (a.length + j) p q (by rw [List.getElem?_append_left hl]; exact hi) (by rw [List.getElem?_append_right (Nat.le_add_right _ _), Nat.add_sub_cancel_left]; exact hj) e
  omega
theorem va_mid (hP : va_P D cl (w1 ++ (ws ++ w2)) H) (hD : va_D A (w1 ++ (ws ++ w2))) (hk : ∀ q : Nat, q < H.size → ¬ va_A ws H.size q → H1[q]? = H[q]?) (hF : ∀ q, va_A ws H.size q → A q) (hP1 : va_P D cl w' H1) (hD1 : va_D (va_A ws H.size) w') :
    va_P D cl (w1 ++ (w' ++ w2)) H1 ∧ va_D A (w1 ++ (w' ++ w2)) := by
  have n1 : ∀ (k : Nat) (q : Nat × va_E), w1[k]? = some q → ¬ va_A ws H.size q.1 := by
    intro k q hq hA
    rcases hA with ⟨j, e, hj⟩ | hj
    · have hj2 : (ws ++ w2)[j]? = some (q.1, e) := by rw [List.getElem?_append_left (List.getElem?_eq_some_iff.mp hj).1]; exact hj
      exact vD_x hD k j q (q.1, e) hq hj2 rfl
    · exact absurd ((vP_l hP) k q hq).lt (Nat.not_lt.mpr hj)
  have n2 : ∀ (k : Nat) (q : Nat × va_E), w2[k]? = some q → ¬ va_A ws H.size q.1 := by
    intro k q hq hA
    rcases hA with ⟨j, e, hj⟩ | hj
    · exact vD_x (vD_r hD) j k (q.1, e) q hj hq rfl
    · exact absurd ((vP_r (vP_r hP)) k q hq).lt (Nat.not_lt.mpr hj)
  have p1 : va_P D cl w1 H1 := fun k q hq => ((vP_l hP) k q hq).kept (hk q.1 ((vP_l hP) k q hq).lt (n1 k q hq))
  have p2 : va_P D cl w2 H1 := fun k q hq => ((vP_r (vP_r hP)) k q hq).kept (hk q.1 ((vP_r (vP_r hP)) k q hq).lt (n2 k q hq))
  have dw : va_D A w' := hD1.weaken (fun _ _ _ h => hF _ h)
  refine ⟨p1.app (hP1.app p2), va_D.app (vD_l hD) (va_D.app dw (vD_r (vD_r hD)) ?_) ?_⟩
  · intro i j x y hx hy e
    exact n2 j y hy (by rw [← e]; exact hD1.2 i x hx)
  · intro i j x y hx hy e
    by_cases hl : j < w'.length
    · rw [List.getElem?_append_left hl] at hy
      exact n1 i x hx (by rw [e]; exact hD1.2 j y hy)
    · rw [List.getElem?_append_right (by omega)] at hy
      have : (ws ++ w2)[ws.length + (j - w'.length)]? = some y := by
        rw [List.getElem?_append_right (Nat.le_add_right _ _), Nat.add_sub_cancel_left]; exact hy
      exact vD_x hD i _ x y hx this e
end
section
variable {p : Program} {l : Launch} {e : Env} {R : Room} {s : State} {m : MethodId} {args : Array Value} {below : List Frame} {meth : Method} {c : Code} {H : Heap} {locs : List Loc} {cells slots : Nat} {Q : State → Prop}
variable {pc : Nat} {ls : Array Slot} {rest st0 : List Value} {D : va_G} {cl : List vw_C} {A : Nat → Prop} {tys : List (ClassId × FieldType)} {ws w1 w2 : va_W}
theorem xFree (hD : va_D A (w1 ++ (ws ++ w2))) (hS : va_S A s.heap H locs) (hA : ∀ q, s.heap.size ≤ q → A q) : ∀ q, va_A ws H.size q → A q := wFree (vD_l (vD_r hD)) hS hA
theorem x_calli {S : Type} {post : Int32 → S → Prop} {wf : S → va_W} {a : Array Value} {mc ms : Nat} (hr : va_Run p l e R s m args below meth c H locs cells slots mc ms (F0 m pc ls st0) rest (va_Qi post (wAt D cl tys (va_A ws H.size) wf) (va_A ws H.size) a) (va_A ws H.size)) (hP : va_P D cl (w1 ++ (ws ++ w2)) H) (hD : va_D A (w1 ++ (ws ++ w2))) (hS : va_S A s.heap H locs) (hA : ∀ q, s.heap.size ≤ q → A q)
    (kk : ∀ (r : Int32) (u : S) (H1 : Heap) (locs1 : List Loc), post r u → va_P D cl (w1 ++ (wf u ++ w2)) H1 → va_D A (w1 ++ (wf u ++ w2)) → va_S A s.heap H1 locs1 → W p l e R s m args below meth c H1 locs1 (cells + mc) (slots + ms) Q (F0 m (pc + 3) ls (.int r :: rest))) : W p l e R s m args below meth c H locs cells slots Q (F0 m pc ls st0) :=
  va_calli hr hS (fun q _ h => xFree hD hS hA q h) (xFree hD hS hA) (fun r u t H1 locs1 ht _ hw hB _ hk hS1 =>
    have z := va_mid hP hD hk (xFree hD hS hA) (by rw [← ht]; exact hB.1) hB.2.2
    kk r u H1 locs1 hw z.1 z.2 hS1)
theorem x_calll {S : Type} {post : Int64 → S → Prop} {wf : S → va_W} {a : Array Value} {mc ms : Nat} (hr : va_Run p l e R s m args below meth c H locs cells slots mc ms (F0 m pc ls st0) rest (va_Ql post (wAt D cl tys (va_A ws H.size) wf) (va_A ws H.size) a) (va_A ws H.size)) (hP : va_P D cl (w1 ++ (ws ++ w2)) H) (hD : va_D A (w1 ++ (ws ++ w2))) (hS : va_S A s.heap H locs) (hA : ∀ q, s.heap.size ≤ q → A q)
    (kk : ∀ (r : Int64) (u : S) (H1 : Heap) (locs1 : List Loc), post r u → va_P D cl (w1 ++ (wf u ++ w2)) H1 → va_D A (w1 ++ (wf u ++ w2)) → va_S A s.heap H1 locs1 → W p l e R s m args below meth c H1 locs1 (cells + mc) (slots + ms) Q (F0 m (pc + 3) ls (.long r :: rest))) : W p l e R s m args below meth c H locs cells slots Q (F0 m pc ls st0) :=
  va_calll hr hS (fun q _ h => xFree hD hS hA q h) (xFree hD hS hA) (fun r u t H1 locs1 ht _ hw hB _ hk hS1 =>
    have z := va_mid hP hD hk (xFree hD hS hA) (by rw [← ht]; exact hB.1) hB.2.2
    kk r u H1 locs1 hw z.1 z.2 hS1)
theorem x_callv {S : Type} {post : S → Prop} {wf : S → va_W} {a : Array Value} {mc ms : Nat} (hr : va_Run p l e R s m args below meth c H locs cells slots mc ms (F0 m pc ls st0) rest (va_Qv post (wAt D cl tys (va_A ws H.size) wf) (va_A ws H.size) a) (va_A ws H.size)) (hP : va_P D cl (w1 ++ (ws ++ w2)) H) (hD : va_D A (w1 ++ (ws ++ w2))) (hS : va_S A s.heap H locs) (hA : ∀ q, s.heap.size ≤ q → A q)
    (kk : ∀ (u : S) (H1 : Heap) (locs1 : List Loc), post u → va_P D cl (w1 ++ (wf u ++ w2)) H1 → va_D A (w1 ++ (wf u ++ w2)) → va_S A s.heap H1 locs1 → W p l e R s m args below meth c H1 locs1 (cells + mc) (slots + ms) Q (F0 m (pc + 3) ls rest)) : W p l e R s m args below meth c H locs cells slots Q (F0 m pc ls st0) :=
  va_callv hr hS (fun q _ h => xFree hD hS hA q h) (xFree hD hS hA) (fun u t H1 locs1 ht _ hw hB _ hk hS1 =>
    have z := va_mid hP hD hk (xFree hD hS hA) (by rw [← ht]; exact hB.1) hB.2.2
    kk u H1 locs1 hw z.1 z.2 hS1)
end
theorem si_1000 : (Int16.ofInt 1000).toInt32 = (1000 : Int32) := by decide +kernel
theorem si_m1000 : (Int16.ofInt (-1000)).toInt32 = (-1000 : Int32) := by decide +kernel
theorem si_16384 : (Int16.ofInt 16384).toInt32 = (16384 : Int32) := by decide +kernel
section
variable {p : Program} {l : Launch} {e : Env} {R : Room} {s : State} {m : MethodId} {args : Array Value} {below : List Frame} {meth : Method} {c : Code} {H : Heap} {locs : List Loc} {cells slots : Nat} {Q : State → Prop}
variable {cc : ByteArray} {pc : Nat} {ls : Array Slot} {rest : List Value} {D : va_G} {cl : List vw_C} {A : Nat → Prop} {a : Nat} {tys : List (ClassId × FieldType)} {ws : va_W} {H0 : Heap}
theorem va_ialdk (hexec : p.tables.exec = Jvm.exec) (hb : c.code = cc) (hK : va_K D cl tys s) (hP : va_P D cl ws H) (q0 t0 : Nat) {cA : ClassId} {n : Nat} {f : Nat → Int32} (ha : ws[q0]? = some (a, .inl (cA, n, .inl f))) (ht : tys[t0]? = some (cA, .int)) {i : Int32} (k : Nat) (hk : i.toNatClampNeg = k) (hin : vp_in i n) (hdg : decode cc pc = .ok (.iaload, 1))
    (kk : W p l e R s m args below meth c H locs cells slots Q (F0 m (pc + 1) ls (.int (f k) :: rest))) : W p l e R s m args below meth c H locs cells slots Q (F0 m pc ls (.int i :: .ref a :: rest)) := by
  subst hk
  exact va_iald hexec hb hK hP q0 t0 ha ht hin hdg kk
theorem va_iastk (hexec : p.tables.exec = Jvm.exec) (hb : c.code = cc) (hK : va_K D cl tys s) (hP : va_P D cl ws H) (hD : va_D A ws) (hS : va_S A H0 H locs) (q0 t0 : Nat) {cA : ClassId} {n : Nat} {f : Nat → Int32} (ha : ws[q0]? = some (a, .inl (cA, n, .inl f))) (ht : tys[t0]? = some (cA, .int)) {i : Int32} (k : Nat) (hk : i.toNatClampNeg = k) {x : Int32} (hin : vp_in i n) (hdg : decode cc pc = .ok (.iastore, 1))
    (kk : ∀ (H1 : Heap) (locs1 : List Loc), va_P D cl (ws.set q0 (a, .inl (cA, n, .inl (upd f k x)))) H1 → va_D A (ws.set q0 (a, .inl (cA, n, .inl (upd f k x)))) → va_S A H0 H1 locs1 → W p l e R s m args below meth c H1 locs1 cells slots Q (F0 m (pc + 1) ls rest)) : W p l e R s m args below meth c H locs cells slots Q (F0 m pc ls (.int x :: .int i :: .ref a :: rest)) := by
  subst hk
  exact va_iast hexec hb hK hP hD hS q0 t0 ha ht hin hdg kk
end
theorem in_lit {i : Int32} {n : Nat} (h : (!(decide (i < 0)) && decide (i.toNatClampNeg < n)) = true) : vp_in i n := by
  simp only [Bool.and_eq_true, Bool.not_eq_true', decide_eq_false_iff_not, decide_eq_true_eq] at h
  exact fun z => z.elim (fun z => h.1 z) (fun z => absurd h.2 (Nat.not_lt.mpr z))
abbrev wd0 (cI : ClassId) (cJ : ClassId) (h : Nat) (ad : Nat → Nat) (I : Nat → Int32) (J : Nat → Int64) (R : Nat → Nat → Int32) (G : Nat → Nat → Int64) : va_W := [(h, .inr (0, [.int (I 0), .int (I 1), .int (I 2), .ref (ad 3), .ref (ad 4), .ref (ad 5), .ref (ad 6), .ref (ad 7), .ref (ad 8), .ref (ad 9), .long (J 10), .int (I 11), .int (I 12), .long (J 13)])), ((ad 3), .inl (cI, 14, .inl (R 3))), ((ad 4), .inl (cJ, 14, .inr (.inl (G 4)))), ((ad 5), .inl (cJ, 14, .inr (.inl (G 5)))), ((ad 6), .inl (cJ, 15, .inr (.inl (G 6)))), ((ad 7), .inl (cJ, 15, .inr (.inl (G 7)))), ((ad 8), .inl (cI, 15, .inl (R 8))), ((ad 9), .inl (cJ, 15, .inr (.inl (G 9))))]
abbrev wd1 (cI : ClassId) (h : Nat) (ad : Nat → Nat) (I : Nat → Int32) (R : Nat → Nat → Int32) (q : Nat) (n : Nat) : va_W := [(h, .inr (1, [.ref (ad 0), .int (I 1), .ref (ad 2), .int (I 3), .ref q, .int (I 5), .int (I 6), .int (I 7), .int (I 8), .int (I 9)])), ((ad 0), .inl (cI, 14, .inl (R 0))), ((ad 2), .inl (cI, 14, .inl (R 2))), (q, .inl (cI, n, .inl (R 4)))]
abbrev wd2 (cI : ClassId) (h : Nat) (ad : Nat → Nat) (I : Nat → Int32) (R : Nat → Nat → Int32) : va_W := [(h, .inr (2, [.int (I 0), .int (I 1), .int (I 2), .int (I 3), .ref (ad 4), .ref (ad 5), .ref (ad 6), .ref (ad 7), .int (I 8), .int (I 9), .ref (ad 10)])), ((ad 4), .inl (cI, 8, .inl (R 4))), ((ad 5), .inl (cI, 8, .inl (R 5))), ((ad 6), .inl (cI, 8, .inl (R 6))), ((ad 7), .inl (cI, 8, .inl (R 7))), ((ad 10), .inl (cI, 4, .inl (R 10)))]
abbrev wd4 (cI : ClassId) (h : Nat) (ad : Nat → Nat) (I : Nat → Int32) (R : Nat → Nat → Int32) : va_W := [(h, .inr (4, [.ref (ad 0), .ref (ad 1), .int (I 2), .ref (ad 3), .ref (ad 4), .ref (ad 5), .ref (ad 6), .ref (ad 7), .ref (ad 8), .ref (ad 9), .ref (ad 10), .int (I 11), .int (I 12), .int (I 13), .int (I 14), .int (I 15), .int (I 16), .ref (ad 17), .int (I 18), .int (I 19), .ref (ad 20), .ref (ad 21), .ref (ad 22), .int (I 23), .ref (ad 24), .ref (ad 25), .ref (ad 26)])), ((ad 0), .inl (cI, 16, .inl (R 0))), ((ad 1), .inl (cI, 16, .inl (R 1))), ((ad 3), .inl (cI, 14, .inl (R 3))), ((ad 4), .inl (cI, 14, .inl (R 4))), ((ad 5), .inl (cI, 14, .inl (R 5))), ((ad 6), .inl (cI, 14, .inl (R 6))), ((ad 7), .inl (cI, 112, .inl (R 7))), ((ad 8), .inl (cI, 112, .inl (R 8))), ((ad 9), .inl (cI, 112, .inl (R 9))), ((ad 10), .inl (cI, 112, .inl (R 10))), ((ad 17), .inl (cI, 14, .inl (R 17))), ((ad 20), .inl (cI, 4, .inl (R 20))), ((ad 21), .inl (cI, 8, .inl (R 21))), ((ad 22), .inl (cI, 14, .inl (R 22))), ((ad 24), .inl (cI, 16384, .inl (R 24))), ((ad 25), .inl (cI, 16384, .inl (R 25))), ((ad 26), .inl (cI, 14, .inl (R 26)))]
