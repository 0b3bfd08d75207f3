/-- all words of the law are the tables' -/
theorem law_in : ∀ w ∈ vsL_law, w ∈ lw_tbl := by
  intro w h
  rcases List.mem_append.mp h with h | h
  · unfold wsL_law0 at h
    rcases List.mem_append.mp h with h | h
    · rcases List.mem_append.mp h with h | h
      · rcases List.mem_append.mp h with h | h
        · rcases List.mem_append.mp h with h | h
          · rcases List.mem_append.mp h with h | h
            · rcases List.mem_append.mp h with h | h
              · refine (List.mem_append.mp h).elim (fun h => lin_r1 w h) (fun h => ?_)
                refine (List.mem_append.mp h).elim (fun h => lin_r2 w h) (fun h => ?_)
                refine (List.mem_append.mp h).elim (fun h => lin_r3 w h) (fun h => ?_)
                refine (List.mem_append.mp h).elim (fun h => lin_r4 w h) (fun h => ?_)
                refine (List.mem_append.mp h).elim (fun h => lin_r5 w h) (fun h => ?_)
                refine (List.mem_append.mp h).elim (fun h => lin_r6 w h) (fun h => ?_)
                refine (List.mem_append.mp h).elim (fun h => lin_r7 w h) (fun h => ?_)
                refine (List.mem_append.mp h).elim (fun h => lin_r8 w h) (fun h => ?_)
                refine (List.mem_append.mp h).elim (fun h => lin_r9 w h) (fun h => ?_)
                refine (List.mem_append.mp h).elim (fun h => lin_r10 w h) (fun h => ?_)
                refine (List.mem_append.mp h).elim (fun h => lin_r11 w h) (fun h => ?_)
                refine (List.mem_append.mp h).elim (fun h => lin_r12 w h) (fun h => ?_)
                refine (List.mem_append.mp h).elim (fun h => lin_r13 w h) (fun h => ?_)
                refine (List.mem_append.mp h).elim (fun h => lin_r14 w h) (fun h => ?_)
                refine (List.mem_append.mp h).elim (fun h => lin_r15 w h) (fun h => ?_)
                refine (List.mem_append.mp h).elim (fun h => lin_r16 w h) (fun h => ?_)
                refine (List.mem_append.mp h).elim (fun h => lin_r17 w h) (fun h => ?_)
                refine (List.mem_append.mp h).elim (fun h => lin_r18 w h) (fun h => ?_)
                refine (List.mem_append.mp h).elim (fun h => lin_r19 w h) (fun h => ?_)
                refine (List.mem_append.mp h).elim (fun h => lin_r20 w h) (fun h => ?_)
                refine (List.mem_append.mp h).elim (fun h => lin_r21 w h) (fun h => ?_)
                refine (List.mem_append.mp h).elim (fun h => lin_r22 w h) (fun h => ?_)
                refine (List.mem_append.mp h).elim (fun h => lin_r23 w h) (fun h => ?_)
                refine (List.mem_append.mp h).elim (fun h => lin_r24 w h) (fun h => ?_)
                refine (List.mem_append.mp h).elim (fun h => lin_r25 w h) (fun h => ?_)
                refine (List.mem_append.mp h).elim (fun h => lin_r26 w h) (fun h => ?_)
                exact lin_r27 w h
              · exact lin_X3 w h
            · exact lin_X4 w h
          · exact lin_X0 w h
        · exact lin_X1 w h
      · exact lin_X2 w h
    · exact absurd h List.not_mem_nil
  · exact lin_x0 w h
theorem ls_n1 : Cond.fieldLinkNest "YearBook" 151 "YearBook$Chooser" "bestSet" "I" "YearBook" ∈ lw_tbl := by decide +kernel
theorem ls_n2 : Cond.fieldLinkNest "YearBook" 173 "YearBook$Pages" "sets" "[I" "YearBook" ∈ lw_tbl := by decide +kernel
theorem ls_n3 : Cond.fieldLinkNest "YearBook" 92 "YearBook$Pages" "count" "I" "YearBook" ∈ lw_tbl := by decide +kernel
theorem ls_n4 : Cond.fieldLinkNest "YearBook" 108 "YearBook$Picture" "kind" "I" "YearBook" ∈ lw_tbl := by decide +kernel
theorem ls_n5 : Cond.fieldLinkNest "YearBook" 111 "YearBook$Picture" "worth" "I" "YearBook" ∈ lw_tbl := by decide +kernel
theorem ls_n6 : Cond.fieldLinkNest "YearBook" 114 "YearBook$Picture" "size" "I" "YearBook" ∈ lw_tbl := by decide +kernel
theorem ls_n7 : Cond.fieldLinkNest "YearBook" 76 "YearBook$Picture" "faces" "I" "YearBook" ∈ lw_tbl := by decide +kernel
theorem ls_n8 : Cond.fieldLinkNest "YearBook" 117 "YearBook$Picture" "seen" "I" "YearBook" ∈ lw_tbl := by decide +kernel
theorem ls_n9 : Cond.methodLinkNest "YearBook" 27 yX0_init "YearBook" ∈ lw_tbl := by decide +kernel
theorem ls_n10 : Cond.methodLinkNest "YearBook" 34 yX1_init "YearBook" ∈ lw_tbl := by decide +kernel
theorem ls_c1 : Cond.castable nNS nNS ∈ lw_tbl := by decide +kernel
theorem ls_c2 : Cond.declares (Bundle.initS "java/lang/RuntimeException") ∈ lw_tbl := by decide +kernel
theorem ls_c3 : Cond.declares (Bundle.initS "java/lang/Exception") ∈ lw_tbl := by decide +kernel
theorem ls_c4 : Cond.declares (Bundle.initS "java/lang/Throwable") ∈ lw_tbl := by decide +kernel
theorem ls_sr : Cond.stringRef RX3 103 "no such picture, or nothing such of it" ∈ lw_tbl := by decide +kernel
theorem ls_l1 : Cond.laysStatic "YearBook" "LEAST_SETTING" "[I" ∈ lw_tbl := by decide +kernel
theorem ls_l2 : Cond.laysStatic "YearBook" "MOST_SETTING" "[I" ∈ lw_tbl := by decide +kernel
theorem ls_l3 : Cond.laysStatic Bundle.tN "UNASSIGNED_STACK" Bundle.steD ∈ lw_tbl := by decide +kernel
theorem ls_l4 : Cond.laysStatic Bundle.tN "SUPPRESSED_SENTINEL" Bundle.listD ∈ lw_tbl := by decide +kernel
theorem ls_ao : Cond.arrayOver (.object "YearBook$Picture") ∈ lw_tbl := by decide +kernel
theorem ls_i1 : Cond.initialized "YearBook" ∈ lw_tbl := by decide +kernel
theorem ls_i2 : Cond.initialized Bundle.tN ∈ lw_tbl := by decide +kernel
theorem ls_ai : Cond.arrayClass .int ∈ lw_tbl := by decide +kernel
theorem ls_aj : Cond.arrayClass .long ∈ lw_tbl := by decide +kernel
theorem ls_in0 : Cond.instantiable RX0 14 ∈ lw_tbl := by decide +kernel
theorem ls_in1 : Cond.instantiable RX1 10 ∈ lw_tbl := by decide +kernel
theorem ls_in2 : Cond.instantiable RX2 11 ∈ lw_tbl := by decide +kernel
theorem ls_in3 : Cond.instantiable RX3 9 ∈ vsL_law := by decide +kernel
theorem ls_in4 : Cond.instantiable RX4 27 ∈ vsL_law := by decide +kernel
theorem ls_cl3 : Cond.classLink RL 8 RX3 ∈ vsL_law := by decide +kernel
theorem ls_cl4 : Cond.classLink RL 16 RX4 ∈ vsL_law := by decide +kernel
theorem ls_ii3 : Cond.initialized RX3 ∈ vsL_law := by decide +kernel
theorem ls_ii4 : Cond.initialized RX4 ∈ vsL_law := by decide +kernel
theorem ls_al : Cond.arrayClass .long ∈ vsL_law := by decide +kernel
theorem ls_m3 : Cond.methodLink RL 15 yX3_init ∈ vsL_law := by decide +kernel
theorem ls_m4 : Cond.methodLink RL 18 yX4_init ∈ vsL_law := by decide +kernel
theorem ls_im3 : Cond.instanceMethod yX3_init ∈ vsL_law := by decide +kernel
theorem ls_im4 : Cond.instanceMethod yX4_init ∈ vsL_law := by decide +kernel
theorem ls_u3 : ∀ w ∈ u_ws RX3 TX3 9, w ∈ vsL_law := by decide +kernel
theorem ls_u4 : ∀ w ∈ u_ws RX4 TX4 27, w ∈ vsL_law := by decide +kernel
theorem dflX3 : ∀ j, j < 9 → defaultValue (tyX3 j) = vp_V [.null, .null, .int 0, .null, .int 0, .null, .int 0, .null, .null] j := by decide +kernel
theorem dflX4 : ∀ j, j < 27 → defaultValue (tyX4 j) = vp_V [.null, .null, .int 0, .null, .null, .null, .null, .null, .null, .null, .null, .int 0, .int 0, .int 0, .int 0, .int 0, .int 0, .null, .int 0, .int 0, .null, .null, .null, .int 0, .null, .null, .null] j := by decide +kernel
theorem ls_nst {s : State} {b : Nat} (h : ∀ w ∈ lw_tbl, w.before #[Value.ref b] s = true) : nst s :=
  ⟨va_Nw.of rfl (h _ ls_n1), va_Nw.of rfl (h _ ls_n2), va_Nw.of rfl (h _ ls_n3), va_Nw.of rfl (h _ ls_n4), va_Nw.of rfl (h _ ls_n5), va_Nw.of rfl (h _ ls_n6), va_Nw.of rfl (h _ ls_n7), va_Nw.of rfl (h _ ls_n8), va_Nw.of rfl (h _ ls_n9), va_Nw.of rfl (h _ ls_n10)⟩
theorem ls_K {s : State} {b : Nat} (h : ∀ w ∈ lw_tbl, w.before #[Value.ref b] s = true) : ∃ (dC : Nat → ClassId) (dI : Nat → Nat → Nat) (cI cJ : ClassId), va_K (dC, dI) vwCl [(cI, .int), (cJ, .long)] s := by
  obtain ⟨c0, i0, k0⟩ := u_known (C := RX0) (T := TX0) (N := 14) (n := 14) h lin_X0 (h _ ls_in0)
  obtain ⟨c1, i1, k1⟩ := u_known (C := RX1) (T := TX1) (N := 10) (n := 10) h lin_X1 (h _ ls_in1)
  obtain ⟨c2, i2, k2⟩ := u_known (C := RX2) (T := TX2) (N := 11) (n := 11) h lin_X2 (h _ ls_in2)
  obtain ⟨c3, i3, k3⟩ := u_known (C := RX3) (T := TX3) (N := 9) (n := 9) h lin_X3 (h _ (law_in _ ls_in3))
  obtain ⟨c4, i4, k4⟩ := u_known (C := RX4) (T := TX4) (N := 27) (n := 27) h lin_X4 (h _ (law_in _ ls_in4))
  obtain ⟨cI, kI, pI, a1, a2, a3⟩ := Cond.arrayClass_spec (h _ ls_ai)
  obtain ⟨cJ, kJ, pJ, b1, b2, b3⟩ := Cond.arrayClass_spec (h _ ls_aj)
  refine ⟨fun k => if k = 0 then c0 else if k = 1 then c1 else if k = 2 then c2 else if k = 3 then c3 else c4, fun k => if k = 0 then i0 else if k = 1 then i1 else if k = 2 then i2 else if k = 3 then i3 else i4, cI, cJ, ?_, ?_⟩
  · intro k q hq
    match k, hq with
    | 0, hq => cases hq; exact k0
    | 1, hq => cases hq; exact k1
    | 2, hq => cases hq; exact k2
    | 3, hq => cases hq; exact k3
    | 4, hq => cases hq; exact k4
    | k + 5, hq => simp at hq
  · intro k q hq
    match k, hq with
    | 0, hq => cases hq; exact ⟨fun n z => ⟨fun k h => (by cases h), kI, a2, pI, a3⟩, a1⟩
    | 1, hq => cases hq; exact ⟨fun n z => ⟨fun k h => (by cases h), kJ, b2, pJ, b3⟩, b1⟩
    | k + 2, hq => simp at hq
theorem ls_st {s : State} {b : Nat} {A : Nat → Prop} (hA : ∀ a : Nat, a < s.heap.size → ¬ A a) (h : ∀ w ∈ lw_tbl, w.before #[Value.ref b] s = true) (hg : (Jvm.Cond.and given_1 narrow_1).before #[Value.ref b] s = true) : ∃ tL tM : Nat, stF tL tM A s s.heap := by
  have hs := flat_of_before _ hg
  obtain ⟨tL, e1, t1⟩ := va_Tof (tm := .static "YearBook" "LEAST_SETTING" "[I") (ty := .int) (N := 4) (f := fun j => .int (([0, 0, 0, 1] : List Int32).getD j 0)) (A := A) (by decide) (hs _ (by decide +kernel)) (va_eqt (hs _ (by decide +kernel))) (fun j hj => va_eqt (by
    match j, hj with
    | 0, _ => exact hs _ (by decide +kernel)
    | 1, _ => exact hs _ (by decide +kernel)
    | 2, _ => exact hs _ (by decide +kernel)
    | 3, _ => exact hs _ (by decide +kernel)
    | j + 4, hj => exact absurd hj (by omega))) hA
  obtain ⟨tM, e2, t2⟩ := va_Tof (tm := .static "YearBook" "MOST_SETTING" "[I") (ty := .int) (N := 4) (f := fun j => .int (([50, 14, 14, 14] : List Int32).getD j 0)) (A := A) (by decide) (hs _ (by decide +kernel)) (va_eqt (hs _ (by decide +kernel))) (fun j hj => va_eqt (by
    match j, hj with
    | 0, _ => exact hs _ (by decide +kernel)
    | 1, _ => exact hs _ (by decide +kernel)
    | 2, _ => exact hs _ (by decide +kernel)
    | 3, _ => exact hs _ (by decide +kernel)
    | j + 4, hj => exact absurd hj (by omega))) hA
  exact ⟨tL, tM, ⟨va_Zof (h _ ls_l1) (h _ ls_i1) e1 hA, t1⟩, va_Zof (h _ ls_l2) (h _ ls_i1) e2 hA, t2⟩
theorem ls_th {s : State} {b : Nat} {A : Nat → Prop} (hA : ∀ a : Nat, a < s.heap.size → ¬ A a) (h : ∀ w ∈ lw_tbl, w.before #[Value.ref b] s = true) (hg : (Jvm.Cond.and given_1 narrow_1).before #[Value.ref b] s = true) : ∃ sa : Nat, thF sa A s s.heap := by
  have hs := flat_of_before _ hg
  obtain ⟨sa, _, _, _, he, -⟩ := Cond.exactly_spec (hs (Cond.exactly (.string "YearBook" 103) "java/lang/String") (by decide +kernel))
  refine ⟨sa, ⟨⟨va_Nw.of rfl (h _ ls_c1), va_Nw.of rfl (h _ ls_c2), va_Nw.of rfl (h _ ls_c3), va_Nw.of rfl (h _ ls_c4)⟩, vk_R.of (h _ ls_sr) he⟩, vx_Zqof (h _ ls_l3) (h _ ls_i2) (hs _ (by decide +kernel)) hA, vx_Zqof (h _ ls_l4) (h _ ls_i2) (hs _ (by decide +kernel)) hA⟩
