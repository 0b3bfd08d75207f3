/-! the frame at Met's level; the world of YearBook -/
section
variable {D : va_G} {cl : List vw_C} {A : Nat → Prop} {H : Heap} {a b w wc wr : va_W} {sz : Nat}
theorem vP_perm (hp : a.Perm b) (h : va_P D cl a H) : va_P D cl b H := by
  intro k q hk
  obtain ⟨i, hi⟩ := List.getElem?_of_mem (hp.mem_iff.mpr (List.mem_of_getElem? hk))
  exact h i q hi
theorem vD_pw : va_D A a ↔ a.Pairwise (fun p q => p.1 ≠ q.1) ∧ ∀ q ∈ a, A q.1 := by
  constructor
  · intro h
    refine ⟨List.pairwise_iff_getElem.mpr ?_, fun q hq => ?_⟩
    · intro i j hi hj hij e
      have := h.1 i j _ _ (List.getElem?_eq_getElem hi) (List.getElem?_eq_getElem hj) e
      omega
    · obtain ⟨k, hk⟩ := List.getElem?_of_mem hq
      exact h.2 k q hk
  · intro h
    have hp := List.pairwise_iff_getElem.mp h.1
    refine ⟨fun i j p q hi hj e => ?_, fun k q hk => h.2 q (List.mem_of_getElem? hk)⟩
    obtain ⟨li, hi⟩ := List.getElem?_eq_some_iff.mp hi
    obtain ⟨lj, hj⟩ := List.getElem?_eq_some_iff.mp hj
    rcases Nat.lt_trichotomy i j with g | g | g
    · exact absurd (by rw [hi, hj]; exact e) (hp i j li lj g)
    · exact g
    · exact absurd (by rw [hi, hj]; exact e.symm) (hp j i lj li g)
theorem vD_perm (hp : a.Perm b) (h : va_D A a) : va_D A b := by
  rw [vD_pw] at h ⊢
  exact ⟨(hp.pairwise_iff (fun {x y} h => fun e => h e.symm)).mp h.1, fun q hq => h.2 q (hp.mem_iff.mpr hq)⟩
theorem vA_perm (hp : w.Perm (wc ++ wr)) : ∀ q, va_A wc sz q → va_A w sz q := by
  intro q h
  rcases h with ⟨k, e, h⟩ | h
  · obtain ⟨i, hi⟩ := List.getElem?_of_mem (hp.mem_iff.mpr (List.mem_append_left wr (List.mem_of_getElem? h)))
    exact Or.inl ⟨i, e, hi⟩
  · exact Or.inr h
end
section
variable {l : Launch} {y : MethodName} {ws : List Cond} {rm : Room} {D : va_G} {cl : List vw_C} {tys tys2 : List (ClassId × FieldType)} {wc wr w : va_W} {sz mc ms : Nat} {av : List Value}
theorem fr_core {S : Type} {wf w' : S → va_W} {u : S} {st t : State} (hp : w.Perm (wc ++ wr)) (hp2 : ∀ u, (wf u ++ wr).Perm (w' u)) (hsz : st.heap.size = sz) (hPw : va_P D cl w st.heap) (hDw : va_D (fun _ => True) w) (hPu : va_P D cl (wf u) t.heap) (hDu : va_D (va_A wc sz) (wf u)) (hF : va_F (va_A wc sz) st t) : va_P D cl (w' u) t.heap ∧ va_D (va_A w sz) (w' u) ∧ va_F (va_A w sz) st t := by
  subst hsz
  have z := va_mid (w1 := []) (ws := wc) (w2 := wr) (w' := wf u) (A := va_A w st.heap.size) (vP_perm hp hPw) (vD_perm hp (hDw.self (sz := st.heap.size))) (fun q h1 h2 => hF.2 q h1 h2) (vA_perm hp) hPu hDu
  exact ⟨vP_perm (hp2 u) z.1, vD_perm (hp2 u) z.2, hF.1, fun q h1 h2 => hF.2 q h1 (fun h => h2 (vA_perm hp q h))⟩
theorem Met_frame_i {S : Type} {post : Int32 → S → Prop} {wf w' : S → va_W} (hM : Met l y ws rm (va_Pc av (wPre D cl tys wc sz)) (va_Qi post (wAt D cl tys (va_A wc sz) wf) (va_A wc sz)) mc ms (va_A wc sz)) (hp : w.Perm (wc ++ wr)) (hp2 : ∀ u, (wf u ++ wr).Perm (w' u)) (hs : ∀ U, va_K D cl tys2 U → va_K D cl tys U) :
    Met l y ws rm (va_Pc av (wPre D cl tys2 w sz)) (va_Qi post (wAt D cl tys2 (va_A w sz) w') (va_A w sz)) mc ms (va_A w sz) := by
  refine MetFree.mono hM (fun a s h => ?_) (fun _ _ _ _ _ h => h) (fun a st o t h hq => ?_)
  · obtain ⟨h1, h2, h3, h4, h5⟩ := h
    exact ⟨h1, h2, vP_l (vP_perm hp h3), hs _ h4, vD_l (vD_perm hp h5)⟩
  · obtain ⟨-, h2, h3, h4, h5⟩ := h
    obtain ⟨⟨⟨r, u, ho, hpo, hPu, -, hDu⟩, hF⟩, L, hE, hL⟩ := hq
    obtain ⟨z1, z2, z3⟩ := fr_core hp hp2 h2 h3 h5 hPu hDu hF
    exact ⟨⟨⟨r, u, ho, hpo, z1, va_K.moved hE.2.1.alike h4, z2⟩, z3⟩, L, hE, fun q hq => vA_perm hp _ (hL q hq)⟩
theorem Met_frame_l {S : Type} {post : Int64 → S → Prop} {wf w' : S → va_W} (hM : Met l y ws rm (va_Pc av (wPre D cl tys wc sz)) (va_Ql post (wAt D cl tys (va_A wc sz) wf) (va_A wc sz)) mc ms (va_A wc sz)) (hp : w.Perm (wc ++ wr)) (hp2 : ∀ u, (wf u ++ wr).Perm (w' u)) (hs : ∀ U, va_K D cl tys2 U → va_K D cl tys U) :
    Met l y ws rm (va_Pc av (wPre D cl tys2 w sz)) (va_Ql post (wAt D cl tys2 (va_A w sz) w') (va_A w sz)) mc ms (va_A w sz) := by
  refine MetFree.mono hM (fun a s h => ?_) (fun _ _ _ _ _ h => h) (fun a st o t h hq => ?_)
  · obtain ⟨h1, h2, h3, h4, h5⟩ := h
    exact ⟨h1, h2, vP_l (vP_perm hp h3), hs _ h4, vD_l (vD_perm hp h5)⟩
  · obtain ⟨-, h2, h3, h4, h5⟩ := h
    obtain ⟨⟨⟨r, u, ho, hpo, hPu, -, hDu⟩, hF⟩, L, hE, hL⟩ := hq
    obtain ⟨z1, z2, z3⟩ := fr_core hp hp2 h2 h3 h5 hPu hDu hF
    exact ⟨⟨⟨r, u, ho, hpo, z1, va_K.moved hE.2.1.alike h4, z2⟩, z3⟩, L, hE, fun q hq => vA_perm hp _ (hL q hq)⟩
theorem Met_frame_v {S : Type} {post : S → Prop} {wf w' : S → va_W} (hM : Met l y ws rm (va_Pc av (wPre D cl tys wc sz)) (va_Qv post (wAt D cl tys (va_A wc sz) wf) (va_A wc sz)) mc ms (va_A wc sz)) (hp : w.Perm (wc ++ wr)) (hp2 : ∀ u, (wf u ++ wr).Perm (w' u)) (hs : ∀ U, va_K D cl tys2 U → va_K D cl tys U) :
    Met l y ws rm (va_Pc av (wPre D cl tys2 w sz)) (va_Qv post (wAt D cl tys2 (va_A w sz) w') (va_A w sz)) mc ms (va_A w sz) := by
  refine MetFree.mono hM (fun a s h => ?_) (fun _ _ _ _ _ h => h) (fun a st o t h hq => ?_)
  · obtain ⟨h1, h2, h3, h4, h5⟩ := h
    exact ⟨h1, h2, vP_l (vP_perm hp h3), hs _ h4, vD_l (vD_perm hp h5)⟩
  · obtain ⟨-, h2, h3, h4, h5⟩ := h
    obtain ⟨⟨⟨u, ho, hpo, hPu, -, hDu⟩, hF⟩, L, hE, hL⟩ := hq
    obtain ⟨z1, z2, z3⟩ := fr_core hp hp2 h2 h3 h5 hPu hDu hF
    exact ⟨⟨⟨u, ho, hpo, z1, va_K.moved hE.2.1.alike h4, z2⟩, z3⟩, L, hE, fun q hq => vA_perm hp _ (hL q hq)⟩
end
/-- the pictures of a book: how many, their addresses, their rows' addresses, their int fields, their rows -/
abbrev vS : Type := Nat × (Nat → Nat) × (Nat → Nat → Nat) × (Nat → Nat → Int32) × (Nat → Nat → Nat → Int32)
abbrev pvN (V : vS) : Nat := V.1
abbrev pvH (V : vS) : Nat → Nat := V.2.1
abbrev pvA (V : vS) : Nat → Nat → Nat := V.2.2.1
abbrev pvI (V : vS) : Nat → Nat → Int32 := V.2.2.2.1
abbrev pvR (V : vS) : Nat → Nat → Nat → Int32 := V.2.2.2.2
def pvW (V : vS) (k : Nat) (I : Nat → Int32) (R : Nat → Nat → Int32) : vS := (pvN V, pvH V, pvA V, va_up (pvI V) k I, va_up (pvR V) k R)
def pvP (V : vS) : Nat → Option Nat := fun k => if k < pvN V then some (pvH V k) else none
def wdP (cI : ClassId) (V : vS) : va_W := (List.range (pvN V)).flatMap (fun k => wd2 cI (pvH V k) (pvA V k) (pvI V k) (pvR V k))
abbrev wd3o (cI cP : ClassId) (h : Nat) (ad : Nat → Nat) (I : Nat → Int32) (R : Nat → Nat → Int32) (pa : Nat → Option Nat) : va_W := [(h, .inr (3, [.ref (ad 0), .ref (ad 1), .int (I 2), .ref (ad 3), .int (I 4), .ref (ad 5), .int (I 6), .ref (ad 7), .ref (ad 8)])), (ad 0, .inl (cI, 16, .inl (R 0))), (ad 1, .inl (cI, 16, .inl (R 1))), (ad 3, .inl (cP, 14, .inr (.inr (.inr (.inr pa))))), (ad 5, .inl (cI, 4, .inl (R 5)))]
abbrev wd3 (cI cJ cP : ClassId) (h : Nat) (ad ad0 ad1 : Nat → Nat) (I : Nat → Int32) (R : Nat → Nat → Int32) (CI : Nat → Int32) (CJ : Nat → Int64) (CR : Nat → Nat → Int32) (CG : Nat → Nat → Int64) (EI : Nat → Int32) (ER : Nat → Nat → Int32) (Eq En : Nat) (V : vS) : va_W :=
  wd3o cI cP h ad I R (pvP V) ++ (wd0 cI cJ (ad 7) ad0 CI CJ CR CG ++ (wd1 cI (ad 8) ad1 EI ER Eq En ++ wdP cI V))
section
variable (cI cJ cP : ClassId) (h : Nat) (ad ad0 ad1 : Nat → Nat) (I : Nat → Int32) (R : Nat → Nat → Int32) (CI : Nat → Int32) (CJ : Nat → Int64) (CR : Nat → Nat → Int32) (CG : Nat → Nat → Int64) (EI : Nat → Int32) (ER : Nat → Nat → Int32) (Eq En : Nat) (V : vS)
theorem wd3_I2 (v : Int32) : (wd3 cI cJ cP h ad ad0 ad1 I R CI CJ CR CG EI ER Eq En V).set 0 (h, .inr (3, [.ref (ad 0), .ref (ad 1), .int (I 2), .ref (ad 3), .int (I 4), .ref (ad 5), .int (I 6), .ref (ad 7), .ref (ad 8)].set 2 (.int v))) = wd3 cI cJ cP h ad ad0 ad1 (va_up I 2 v) R CI CJ CR CG EI ER Eq En V := rfl
theorem wd3_I4 (v : Int32) : (wd3 cI cJ cP h ad ad0 ad1 I R CI CJ CR CG EI ER Eq En V).set 0 (h, .inr (3, [.ref (ad 0), .ref (ad 1), .int (I 2), .ref (ad 3), .int (I 4), .ref (ad 5), .int (I 6), .ref (ad 7), .ref (ad 8)].set 4 (.int v))) = wd3 cI cJ cP h ad ad0 ad1 (va_up I 4 v) R CI CJ CR CG EI ER Eq En V := rfl
theorem wd3_I6 (v : Int32) : (wd3 cI cJ cP h ad ad0 ad1 I R CI CJ CR CG EI ER Eq En V).set 0 (h, .inr (3, [.ref (ad 0), .ref (ad 1), .int (I 2), .ref (ad 3), .int (I 4), .ref (ad 5), .int (I 6), .ref (ad 7), .ref (ad 8)].set 6 (.int v))) = wd3 cI cJ cP h ad ad0 ad1 (va_up I 6 v) R CI CJ CR CG EI ER Eq En V := rfl
theorem wd3_R0 (v : Nat → Int32) : (wd3 cI cJ cP h ad ad0 ad1 I R CI CJ CR CG EI ER Eq En V).set 1 (ad 0, .inl (cI, 16, .inl v)) = wd3 cI cJ cP h ad ad0 ad1 I (va_up R 0 v) CI CJ CR CG EI ER Eq En V := rfl
theorem wd3_R1 (v : Nat → Int32) : (wd3 cI cJ cP h ad ad0 ad1 I R CI CJ CR CG EI ER Eq En V).set 2 (ad 1, .inl (cI, 16, .inl v)) = wd3 cI cJ cP h ad ad0 ad1 I (va_up R 1 v) CI CJ CR CG EI ER Eq En V := rfl
theorem wd3_R5 (v : Nat → Int32) : (wd3 cI cJ cP h ad ad0 ad1 I R CI CJ CR CG EI ER Eq En V).set 4 (ad 5, .inl (cI, 4, .inl v)) = wd3 cI cJ cP h ad ad0 ad1 I (va_up R 5 v) CI CJ CR CG EI ER Eq En V := rfl
theorem p3c : (wd3 cI cJ cP h ad ad0 ad1 I R CI CJ CR CG EI ER Eq En V).Perm (wd0 cI cJ (ad 7) ad0 CI CJ CR CG ++ (wd3o cI cP h ad I R (pvP V) ++ (wd1 cI (ad 8) ad1 EI ER Eq En ++ wdP cI V))) := List.perm_append_comm_assoc _ _ _
theorem p3e : (wd3 cI cJ cP h ad ad0 ad1 I R CI CJ CR CG EI ER Eq En V).Perm (wd1 cI (ad 8) ad1 EI ER Eq En ++ (wd3o cI cP h ad I R (pvP V) ++ (wd0 cI cJ (ad 7) ad0 CI CJ CR CG ++ wdP cI V))) :=
  (List.Perm.append_left _ (List.perm_append_comm_assoc _ _ _)).trans (List.perm_append_comm_assoc _ _ _)
/-- the pictures but the k-th -/
def wdX (cI : ClassId) (V : vS) (k : Nat) : va_W := ((List.range (pvN V)).erase k).flatMap (fun k => wd2 cI (pvH V k) (pvA V k) (pvI V k) (pvR V k))
theorem wdX_W (k : Nat) (I' : Nat → Int32) (R' : Nat → Nat → Int32) : wdX cI (pvW V k I' R') k = wdX cI V k := by
  have hn : (List.range (pvN V)).Nodup := List.nodup_range
  have e : ∀ j ∈ (List.range (pvN V)).erase k, wd2 cI (pvH (pvW V k I' R') j) (pvA (pvW V k I' R') j) (pvI (pvW V k I' R') j) (pvR (pvW V k I' R') j) = wd2 cI (pvH V j) (pvA V j) (pvI V j) (pvR V j) := by
    intro j hj
    have hne : j ≠ k := (hn.mem_erase_iff.mp hj).1
    have e1 : pvI (pvW V k I' R') j = pvI V j := by show va_up (pvI V) k I' j = _; simp [va_up, hne]
    have e2 : pvR (pvW V k I' R') j = pvR V j := by show va_up (pvR V) k R' j = _; simp [va_up, hne]
    rw [e1, e2]
    rfl
  unfold wdX
  show ((List.range (pvN V)).erase k).flatMap _ = _
  rw [List.flatMap_def, List.flatMap_def, List.map_congr_left e]
theorem wdP_at {k : Nat} (hk : k < pvN V) : (wdP cI V).Perm (wd2 cI (pvH V k) (pvA V k) (pvI V k) (pvR V k) ++ wdX cI V k) := by
  have hp : (List.range (pvN V)).Perm (k :: (List.range (pvN V)).erase k) := List.perm_cons_erase (List.mem_range.mpr hk)
  exact (hp.flatMap_right _).trans (by rw [List.flatMap_cons]; exact List.Perm.refl _)
theorem wdP_W {k : Nat} (hk : k < pvN V) (I' : Nat → Int32) (R' : Nat → Nat → Int32) : (wdP cI (pvW V k I' R')).Perm (wd2 cI (pvH V k) (pvA V k) I' R' ++ wdX cI V k) := by
  have h1 := wdP_at cI (pvW V k I' R') (k := k) hk
  have e1 : pvI (pvW V k I' R') k = I' := by show va_up (pvI V) k I' k = _; simp [va_up]
  have e2 : pvR (pvW V k I' R') k = R' := by show va_up (pvR V) k R' k = _; simp [va_up]
  rw [e1, e2, wdX_W] at h1
  exact h1
/-- a picture ahead of all -/
theorem p3v {k : Nat} (hk : k < pvN V) : (wd3 cI cJ cP h ad ad0 ad1 I R CI CJ CR CG EI ER Eq En V).Perm (wd2 cI (pvH V k) (pvA V k) (pvI V k) (pvR V k) ++ (wd3o cI cP h ad I R (pvP V) ++ (wd0 cI cJ (ad 7) ad0 CI CJ CR CG ++ (wd1 cI (ad 8) ad1 EI ER Eq En ++ wdX cI V k)))) :=
  (List.Perm.append_left _ (List.Perm.append_left _ (List.Perm.append_left _ (wdP_at cI V hk)))).trans ((List.Perm.append_left _ (List.Perm.append_left _ (List.perm_append_comm_assoc _ _ _))).trans ((List.Perm.append_left _ (List.perm_append_comm_assoc _ _ _)).trans (List.perm_append_comm_assoc _ _ _)))
theorem p3w {k : Nat} (hk : k < pvN V) (I' : Nat → Int32) (R' : Nat → Nat → Int32) : (wd2 cI (pvH V k) (pvA V k) I' R' ++ (wd3o cI cP h ad I R (pvP V) ++ (wd0 cI cJ (ad 7) ad0 CI CJ CR CG ++ (wd1 cI (ad 8) ad1 EI ER Eq En ++ wdX cI V k)))).Perm (wd3 cI cJ cP h ad ad0 ad1 I R CI CJ CR CG EI ER Eq En (pvW V k I' R')) := by
  refine List.Perm.symm ?_
  show (wd3o cI cP h ad I R (pvP V) ++ (wd0 cI cJ (ad 7) ad0 CI CJ CR CG ++ (wd1 cI (ad 8) ad1 EI ER Eq En ++ wdP cI (pvW V k I' R')))).Perm _
  exact (List.Perm.append_left _ (List.Perm.append_left _ (List.Perm.append_left _ (wdP_W cI V hk I' R')))).trans ((List.Perm.append_left _ (List.Perm.append_left _ (List.perm_append_comm_assoc _ _ _))).trans ((List.Perm.append_left _ (List.perm_append_comm_assoc _ _ _)).trans (List.perm_append_comm_assoc _ _ _)))
theorem pic_in {k : Nat} (hk : k < pvN V) : ∃ q0 : Nat, (wd3 cI cJ cP h ad ad0 ad1 I R CI CJ CR CG EI ER Eq En V)[q0]? = some (pvH V k, .inr (2, [.int (pvI V k 0), .int (pvI V k 1), .int (pvI V k 2), .int (pvI V k 3), .ref (pvA V k 4), .ref (pvA V k 5), .ref (pvA V k 6), .ref (pvA V k 7), .int (pvI V k 8), .int (pvI V k 9), .ref (pvA V k 10)])) :=
  List.getElem?_of_mem ((p3v cI cJ cP h ad ad0 ad1 I R CI CJ CR CG EI ER Eq En V hk).mem_iff.mpr (List.mem_append_left _ List.mem_cons_self))
end
/-- the links between nest mates, which are facts of the tables -/
def nst (U : State) : Prop := va_Nw (.fieldLinkNest "YearBook" 151 "YearBook$Chooser" "bestSet" "I" "YearBook") U ∧ va_Nw (.fieldLinkNest "YearBook" 173 "YearBook$Pages" "sets" "[I" "YearBook") U ∧ va_Nw (.fieldLinkNest "YearBook" 92 "YearBook$Pages" "count" "I" "YearBook") U ∧ va_Nw (.fieldLinkNest "YearBook" 108 "YearBook$Picture" "kind" "I" "YearBook") U ∧ va_Nw (.fieldLinkNest "YearBook" 111 "YearBook$Picture" "worth" "I" "YearBook") U ∧ va_Nw (.fieldLinkNest "YearBook" 114 "YearBook$Picture" "size" "I" "YearBook") U ∧ va_Nw (.fieldLinkNest "YearBook" 76 "YearBook$Picture" "faces" "I" "YearBook") U ∧ va_Nw (.fieldLinkNest "YearBook" 117 "YearBook$Picture" "seen" "I" "YearBook") U ∧ va_Nw (.methodLinkNest "YearBook" 27 yX0_init "YearBook") U ∧ va_Nw (.methodLinkNest "YearBook" 34 yX1_init "YearBook") U
theorem nst.warm {s U : State} (hW : s.WarmedH U.vm) (h : nst s) : nst U := by
  obtain ⟨h1, h2, h3, h4, h5, h6, h7, h8, h9, h10⟩ := h
  exact ⟨h1.warmF hW, h2.warmF hW, h3.warmF hW, h4.warmF hW, h5.warmF hW, h6.warmF hW, h7.warmF hW, h8.warmF hW, h9.warmM hW, h10.warmM hW⟩
theorem nst.same {s U : State} (e : s.vm = U.vm) (h : nst s) : nst U := by
  obtain ⟨h1, h2, h3, h4, h5, h6, h7, h8, h9, h10⟩ := h
  exact ⟨h1.same rfl e, h2.same rfl e, h3.same rfl e, h4.same rfl e, h5.same rfl e, h6.same rfl e, h7.same rfl e, h8.same rfl e, h9.same rfl e, h10.same rfl e⟩
abbrev wPreN (D : va_G) (cl : List vw_C) (tys : List (ClassId × FieldType)) (ws : va_W) (sz : Nat) : State → Prop := fun U => wPre D cl tys ws sz U ∧ nst U
section
variable {s : State} {H : Heap} {D : va_G} {cl : List vw_C} {A : Nat → Prop} {tys : List (ClassId × FieldType)} {ws : va_W}
theorem wBlindN {av : List Value} {sz : Nat} : FrameBlind (va_Pc av (wPreN D cl tys ws sz)) := fun a U g mk q => by
  obtain ⟨q0, ⟨q1, qP, qK, qD⟩, qn⟩ := q
  exact ⟨q0, ⟨q1, qP, va_K.moved (u := U) (U := U.calling g mk a) (Vm.Alike.refl U.vm) qK, qD⟩, qn.same rfl⟩
theorem wPreVN {b : Nat} {As : List Value} {q0 ci : Nat} {q : vw_C} {fs : List Value} (hn : nst s) (hK : va_K D cl tys s) (hP : va_P D cl ws H) (hD : va_D A ws) (hc : cl[ci]? = some q) (he : ws[q0]? = some (b, .inr (ci, fs))) : PreV s H q.1 b (va_Pc (.ref b :: As) (wPreN D cl tys ws H.size)) As :=
  ⟨wBlindN, va_recv hK hP hc he, fun U hU hW => ⟨rfl, ⟨by rw [hU], by rw [hU]; exact hP, va_K.moved hW.alike hK, hD.weaken (fun _ _ _ _ => trivial)⟩, hn.warm hW⟩⟩
end
