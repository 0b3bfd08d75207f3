set_option maxHeartbeats 4000000 in
set_option maxRecDepth 100000 in
theorem lc_child {p : Program} {l : Launch} {e : Env} {s : State} {m : MethodId} {below : List Frame} {meth : Method} {c : Code} {b L : Nat} {xs : Nat → Int32} {dC : Nat → ClassId} {dI : Nat → Nat → Nat} {cI cJ cP : ClassId} {sa tL tM : Nat} {J : Nat → Nat → Nat → cS → mS → Prop} (hJ : Agree J) (X : LawC p l s m meth c b L xs dC dI cI cJ cP sa tL tM) {h hm ao : Nat} {ad ad0 ad1 adm : Nat → Nat} {i k c0 s0 : Nat} {u : cS} {v : mS} {fo : Nat → Int64} {H : Heap} {locs : List Loc} {ls : Array Slot} (hi : i + 6 ≤ L) (hk : k < 512) (hj : J k c0 s0 u v) (hP : va_P (dC, dI) vwCl (wL cI cJ cP h ad ad0 ad1 hm adm ao u v fo) H) (hD : va_D (fun q : Nat => s.heap.size ≤ q) (wL cI cJ cP h ad ad0 ad1 hm adm ao u v fo)) (hS : va_S (fun q : Nat => s.heap.size ≤ q) s.heap H locs) (hl : lv_has ls 7 [(0, .ref b), (1, .ref h), (2, .ref hm), (3, .ref ao), (4, .int (nI i))]) (kk : ∀ (c1 s1 : Nat) (u' : cS) (v' : mS) (fo : Nat → Int64) (H : Heap) (locs : List Loc) (ls : Array Slot), J (k + 1) c1 s1 u' v' → va_P (dC, dI) vwCl (wL cI cJ cP h ad ad0 ad1 hm adm ao u' v' fo) H → va_D (fun q : Nat => s.heap.size ≤ q) (wL cI cJ cP h ad ad0 ad1 hm adm ao u' v' fo) → va_S (fun q : Nat => s.heap.size ≤ q) s.heap H locs → lv_has ls 7 [(0, .ref b), (1, .ref h), (2, .ref hm), (3, .ref ao), (4, .int (nI i))] → W p l e room_1 s m #[Value.ref b] below meth c H locs c1 s1 (lw_Z below #[Value.ref b] s) (F0 m 802 ls [])) : W p l e room_1 s m #[Value.ref b] below meth c H locs c0 s0 (lw_Z below #[Value.ref b] s) (F0 m 148 ls []) := by
  obtain ⟨hx, hb, hr, hml, hown, hts, hX, hbl, hlocks, hL, htr, hn, hK, hth, hst⟩ := X
  have hA : ∀ q : Nat, s.heap.size ≤ q → (fun q : Nat => s.heap.size ≤ q) q := fun _ h => h
  have hbA : ¬ (fun q : Nat => s.heap.size ≤ q) b := Nat.not_le.mpr hbl
  obtain ⟨hr1, hr2⟩ := hJ.room (Nat.le_of_lt hk) hj
  obtain ⟨I, R, CI, CJ, CR, CG, EI, ER, Eq, En, V⟩ := u
  obtain ⟨I4, R4⟩ := v
  obtain ⟨Q3, hq, hqr⟩ := hJ.child (xs (nI i + 1).toNatClampNeg) hk hj
  refine lv_aload_n hx hb dL_law_148 rfl (lv_at hl 1 rfl) ?_
  refine lv_aload_n hx hb dL_law_149 rfl (lv_at hl 0 rfl) ?_
  refine lv_iload hx hb dL_law_150 (lv_at hl 4 rfl) ?_
  refine lv_iconst (v := (1 : Int32)) hx hb dL_law_152 (by decide) ?_
  refine lv_iadd hx hb dL_law_153 ?_
  refine va_sld hx hb hX hbl hbA hS (li1 hi hL) dL_law_154 ?_
  refine x_calli (w1 := []) (w2 := wd4 cI hm adm I4 R4 ++ [(ao, .inl (cJ, 1, .inr (.inl fo)))]) (wf := fun u : (Nat → Int32) × (Nat → Nat → Int32) × (Nat → Int32) × (Nat → Int64) × (Nat → Nat → Int32) × (Nat → Nat → Int64) × (Nat → Int32) × (Nat → Nat → Int32) × (Nat) × (Nat) × (vS) => wd3 cI cJ cP h ad ad0 ad1 u.1 u.2.1 u.2.2.1 u.2.2.2.1 u.2.2.2.2.1 u.2.2.2.2.2.1 u.2.2.2.2.2.2.1 u.2.2.2.2.2.2.2.1 u.2.2.2.2.2.2.2.2.1 u.2.2.2.2.2.2.2.2.2.1 u.2.2.2.2.2.2.2.2.2.2) (va_runV (As := [.int (xs (nI i + 1).toNatClampNeg)]) (rest := []) ⟨hx, hb, hml, hown, hts⟩ (tX3_child l dC dI cI cJ cP h ad ad0 ad1 _ Q3 (xs (nI i + 1).toNatClampNeg) I R CI CJ CR CG EI ER Eq En V hq) (cwV 1 hts gL_law_X3_child rfl rfl rfl (by decide +kernel) ⟨Nat.le_of_ble_eq_true rfl, Nat.le_of_ble_eq_true rfl⟩) (wPreVN hn hK (vP_l hP) (vD_l hD) (ci := 3) (q0 := 0) rfl rfl) rfl rfl hl.1 rfl (lv_room (Nat.le_of_ble_eq_true rfl)) dL_law_155 ⟨by show c0 + 0 ≤ 601024; omega, by show s0 + 0 ≤ 7293033; omega⟩) hP hD hS hA (fun r u H locs hp hP hD hS => ?_)
  obtain ⟨I, R, CI, CJ, CR, CG, EI, ER, Eq, En, V⟩ := u
  obtain ⟨Q4, hq4, hqr4⟩ := hqr r (I, R, CI, CJ, CR, CG, EI, ER, Eq, En, V) hp
  have hP : va_P (dC, dI) vwCl (wL cI cJ cP h ad ad0 ad1 hm adm ao (I, R, CI, CJ, CR, CG, EI, ER, Eq, En, V) (I4, R4) fo) H := hP
  have hD : va_D (fun q : Nat => s.heap.size ≤ q) (wL cI cJ cP h ad ad0 ad1 hm adm ao (I, R, CI, CJ, CR, CG, EI, ER, Eq, En, V) (I4, R4) fo) := hD
  refine lv_aload_n hx hb dL_law_158 rfl (lv_at hl 2 rfl) ?_
  refine lv_aload_n hx hb dL_law_159 rfl (lv_at hl 0 rfl) ?_
  refine lv_iload hx hb dL_law_160 (lv_at hl 4 rfl) ?_
  refine lv_iconst (v := (1 : Int32)) hx hb dL_law_162 (by decide) ?_
  refine lv_iadd hx hb dL_law_163 ?_
  refine va_sld hx hb hX hbl hbA hS (li1 hi hL) dL_law_164 ?_
  refine x_calli (w1 := wd3 cI cJ cP h ad ad0 ad1 I R CI CJ CR CG EI ER Eq En V) (w2 := [(ao, .inl (cJ, 1, .inr (.inl fo)))]) (wf := fun u : (Nat → Int32) × (Nat → Nat → Int32) => wd4 cI hm adm u.1 u.2) (va_runV (As := [.int (xs (nI i + 1).toNatClampNeg)]) (rest := [.int r]) ⟨hx, hb, hml, hown, hts⟩ (tX4_child l dC dI cI hm adm _ Q4 (xs (nI i + 1).toNatClampNeg) I4 R4 hq4) (cwV 1 hts gL_law_X4_child rfl rfl rfl (by decide +kernel) ⟨Nat.le_of_ble_eq_true rfl, Nat.le_of_ble_eq_true rfl⟩) (wPreV (hK.sub [0] rfl) (vP_l (vP_r hP)) (vD_l (vD_r hD)) (ci := 4) (q0 := 0) rfl rfl) rfl rfl hl.1 rfl (lv_room (Nat.le_of_ble_eq_true rfl)) dL_law_165 ⟨by show c0 + 0 + 0 ≤ 601024; omega, by show s0 + 0 + 0 ≤ 7293033; omega⟩) hP hD hS hA (fun r4 u4 H locs hp4 hP hD hS => ?_)
  obtain ⟨I4, R4⟩ := u4
  obtain ⟨rfl, hj⟩ := hqr4 r4 (I4, R4) hp4
  have hP : va_P (dC, dI) vwCl (wL cI cJ cP h ad ad0 ad1 hm adm ao (I, R, CI, CJ, CR, CG, EI, ER, Eq, En, V) (I4, R4) fo) H := hP
  have hD : va_D (fun q : Nat => s.heap.size ≤ q) (wL cI cJ cP h ad ad0 ad1 hm adm ao (I, R, CI, CJ, CR, CG, EI, ER, Eq, En, V) (I4, R4) fo) := hD
  refine lv_icmp_eq (tgt := 802) hx hb dL_law_168 (by decide) (fun _ => ?_) (fun hne => absurd rfl hne)
  exact kk _ _ _ _ _ _ _ _ hj hP hD hS hl
set_option maxHeartbeats 4000000 in
set_option maxRecDepth 100000 in
theorem lc_consent {p : Program} {l : Launch} {e : Env} {s : State} {m : MethodId} {below : List Frame} {meth : Method} {c : Code} {b L : Nat} {xs : Nat → Int32} {dC : Nat → ClassId} {dI : Nat → Nat → Nat} {cI cJ cP : ClassId} {sa tL tM : Nat} {J : Nat → Nat → Nat → cS → mS → Prop} (hJ : Agree J) (X : LawC p l s m meth c b L xs dC dI cI cJ cP sa tL tM) {h hm ao : Nat} {ad ad0 ad1 adm : Nat → Nat} {i k c0 s0 : Nat} {u : cS} {v : mS} {fo : Nat → Int64} {H : Heap} {locs : List Loc} {ls : Array Slot} (hi : i + 6 ≤ L) (hk : k < 512) (hj : J k c0 s0 u v) (hP : va_P (dC, dI) vwCl (wL cI cJ cP h ad ad0 ad1 hm adm ao u v fo) H) (hD : va_D (fun q : Nat => s.heap.size ≤ q) (wL cI cJ cP h ad ad0 ad1 hm adm ao u v fo)) (hS : va_S (fun q : Nat => s.heap.size ≤ q) s.heap H locs) (hl : lv_has ls 7 [(0, .ref b), (1, .ref h), (2, .ref hm), (3, .ref ao), (4, .int (nI i))]) (kk : ∀ (c1 s1 : Nat) (u' : cS) (v' : mS) (fo : Nat → Int64) (H : Heap) (locs : List Loc) (ls : Array Slot), J (k + 1) c1 s1 u' v' → va_P (dC, dI) vwCl (wL cI cJ cP h ad ad0 ad1 hm adm ao u' v' fo) H → va_D (fun q : Nat => s.heap.size ≤ q) (wL cI cJ cP h ad ad0 ad1 hm adm ao u' v' fo) → va_S (fun q : Nat => s.heap.size ≤ q) s.heap H locs → lv_has ls 7 [(0, .ref b), (1, .ref h), (2, .ref hm), (3, .ref ao), (4, .int (nI i))] → W p l e room_1 s m #[Value.ref b] below meth c H locs c1 s1 (lw_Z below #[Value.ref b] s) (F0 m 802 ls [])) : W p l e room_1 s m #[Value.ref b] below meth c H locs c0 s0 (lw_Z below #[Value.ref b] s) (F0 m 173 ls []) := by
  obtain ⟨hx, hb, hr, hml, hown, hts, hX, hbl, hlocks, hL, htr, hn, hK, hth, hst⟩ := X
  have hA : ∀ q : Nat, s.heap.size ≤ q → (fun q : Nat => s.heap.size ≤ q) q := fun _ h => h
  have hbA : ¬ (fun q : Nat => s.heap.size ≤ q) b := Nat.not_le.mpr hbl
  obtain ⟨hr1, hr2⟩ := hJ.room (Nat.le_of_lt hk) hj
  obtain ⟨I, R, CI, CJ, CR, CG, EI, ER, Eq, En, V⟩ := u
  obtain ⟨I4, R4⟩ := v
  obtain ⟨Q3, hq, hqr⟩ := hJ.consent (xs (nI i + 1).toNatClampNeg) (xs (nI i + 2).toNatClampNeg) hk hj
  refine lv_aload_n hx hb dL_law_173 rfl (lv_at hl 1 rfl) ?_
  refine lv_aload_n hx hb dL_law_174 rfl (lv_at hl 0 rfl) ?_
  refine lv_iload hx hb dL_law_175 (lv_at hl 4 rfl) ?_
  refine lv_iconst (v := (1 : Int32)) hx hb dL_law_177 (by decide) ?_
  refine lv_iadd hx hb dL_law_178 ?_
  refine va_sld hx hb hX hbl hbA hS (li1 hi hL) dL_law_179 ?_
  refine lv_aload_n hx hb dL_law_180 rfl (lv_at hl 0 rfl) ?_
  refine lv_iload hx hb dL_law_181 (lv_at hl 4 rfl) ?_
  refine lv_iconst (v := (2 : Int32)) hx hb dL_law_183 (by decide) ?_
  refine lv_iadd hx hb dL_law_184 ?_
  refine va_sld hx hb hX hbl hbA hS (li2 hi hL) dL_law_185 ?_
  refine x_calli (w1 := []) (w2 := wd4 cI hm adm I4 R4 ++ [(ao, .inl (cJ, 1, .inr (.inl fo)))]) (wf := fun u : (Nat → Int32) × (Nat → Nat → Int32) × (Nat → Int32) × (Nat → Int64) × (Nat → Nat → Int32) × (Nat → Nat → Int64) × (Nat → Int32) × (Nat → Nat → Int32) × (Nat) × (Nat) × (vS) => wd3 cI cJ cP h ad ad0 ad1 u.1 u.2.1 u.2.2.1 u.2.2.2.1 u.2.2.2.2.1 u.2.2.2.2.2.1 u.2.2.2.2.2.2.1 u.2.2.2.2.2.2.2.1 u.2.2.2.2.2.2.2.2.1 u.2.2.2.2.2.2.2.2.2.1 u.2.2.2.2.2.2.2.2.2.2) (va_runV (As := [.int (xs (nI i + 1).toNatClampNeg), .int (xs (nI i + 2).toNatClampNeg)]) (rest := []) ⟨hx, hb, hml, hown, hts⟩ (tX3_consent l dC dI cI cJ cP h ad ad0 ad1 _ Q3 (xs (nI i + 1).toNatClampNeg) (xs (nI i + 2).toNatClampNeg) I R CI CJ CR CG EI ER Eq En V hq) (cwV 2 hts gL_law_X3_consent rfl rfl rfl (by decide +kernel) ⟨Nat.le_of_ble_eq_true rfl, Nat.le_of_ble_eq_true rfl⟩) (wPreVN hn hK (vP_l hP) (vD_l hD) (ci := 3) (q0 := 0) rfl rfl) rfl rfl hl.1 rfl (lv_room (Nat.le_of_ble_eq_true rfl)) dL_law_186 ⟨by show c0 + 0 ≤ 601024; omega, by show s0 + 0 ≤ 7293033; omega⟩) hP hD hS hA (fun r u H locs hp hP hD hS => ?_)
  obtain ⟨I, R, CI, CJ, CR, CG, EI, ER, Eq, En, V⟩ := u
  obtain ⟨Q4, hq4, hqr4⟩ := hqr r (I, R, CI, CJ, CR, CG, EI, ER, Eq, En, V) hp
  have hP : va_P (dC, dI) vwCl (wL cI cJ cP h ad ad0 ad1 hm adm ao (I, R, CI, CJ, CR, CG, EI, ER, Eq, En, V) (I4, R4) fo) H := hP
  have hD : va_D (fun q : Nat => s.heap.size ≤ q) (wL cI cJ cP h ad ad0 ad1 hm adm ao (I, R, CI, CJ, CR, CG, EI, ER, Eq, En, V) (I4, R4) fo) := hD
  refine lv_aload_n hx hb dL_law_189 rfl (lv_at hl 2 rfl) ?_
  refine lv_aload_n hx hb dL_law_190 rfl (lv_at hl 0 rfl) ?_
  refine lv_iload hx hb dL_law_191 (lv_at hl 4 rfl) ?_
  refine lv_iconst (v := (1 : Int32)) hx hb dL_law_193 (by decide) ?_
  refine lv_iadd hx hb dL_law_194 ?_
  refine va_sld hx hb hX hbl hbA hS (li1 hi hL) dL_law_195 ?_
  refine lv_aload_n hx hb dL_law_196 rfl (lv_at hl 0 rfl) ?_
  refine lv_iload hx hb dL_law_197 (lv_at hl 4 rfl) ?_
  refine lv_iconst (v := (2 : Int32)) hx hb dL_law_199 (by decide) ?_
  refine lv_iadd hx hb dL_law_200 ?_
  refine va_sld hx hb hX hbl hbA hS (li2 hi hL) dL_law_201 ?_
  refine x_calli (w1 := wd3 cI cJ cP h ad ad0 ad1 I R CI CJ CR CG EI ER Eq En V) (w2 := [(ao, .inl (cJ, 1, .inr (.inl fo)))]) (wf := fun u : (Nat → Int32) × (Nat → Nat → Int32) => wd4 cI hm adm u.1 u.2) (va_runV (As := [.int (xs (nI i + 1).toNatClampNeg), .int (xs (nI i + 2).toNatClampNeg)]) (rest := [.int r]) ⟨hx, hb, hml, hown, hts⟩ (tX4_consent l dC dI cI hm adm _ Q4 (xs (nI i + 1).toNatClampNeg) (xs (nI i + 2).toNatClampNeg) I4 R4 hq4) (cwV 2 hts gL_law_X4_consent rfl rfl rfl (by decide +kernel) ⟨Nat.le_of_ble_eq_true rfl, Nat.le_of_ble_eq_true rfl⟩) (wPreV (hK.sub [0] rfl) (vP_l (vP_r hP)) (vD_l (vD_r hD)) (ci := 4) (q0 := 0) rfl rfl) rfl rfl hl.1 rfl (lv_room (Nat.le_of_ble_eq_true rfl)) dL_law_202 ⟨by show c0 + 0 + 0 ≤ 601024; omega, by show s0 + 0 + 0 ≤ 7293033; omega⟩) hP hD hS hA (fun r4 u4 H locs hp4 hP hD hS => ?_)
  obtain ⟨I4, R4⟩ := u4
  obtain ⟨rfl, hj⟩ := hqr4 r4 (I4, R4) hp4
  have hP : va_P (dC, dI) vwCl (wL cI cJ cP h ad ad0 ad1 hm adm ao (I, R, CI, CJ, CR, CG, EI, ER, Eq, En, V) (I4, R4) fo) H := hP
  have hD : va_D (fun q : Nat => s.heap.size ≤ q) (wL cI cJ cP h ad ad0 ad1 hm adm ao (I, R, CI, CJ, CR, CG, EI, ER, Eq, En, V) (I4, R4) fo) := hD
  refine lv_icmp_eq (tgt := 802) hx hb dL_law_205 (by decide) (fun _ => ?_) (fun hne => absurd rfl hne)
  exact kk _ _ _ _ _ _ _ _ hj hP hD hS hl
set_option maxHeartbeats 4000000 in
set_option maxRecDepth 100000 in
theorem lc_picture {p : Program} {l : Launch} {e : Env} {s : State} {m : MethodId} {below : List Frame} {meth : Method} {c : Code} {b L : Nat} {xs : Nat → Int32} {dC : Nat → ClassId} {dI : Nat → Nat → Nat} {cI cJ cP : ClassId} {sa tL tM : Nat} {J : Nat → Nat → Nat → cS → mS → Prop} (hJ : Agree J) (X : LawC p l s m meth c b L xs dC dI cI cJ cP sa tL tM) {h hm ao : Nat} {ad ad0 ad1 adm : Nat → Nat} {i k c0 s0 : Nat} {u : cS} {v : mS} {fo : Nat → Int64} {H : Heap} {locs : List Loc} {ls : Array Slot} (hi : i + 6 ≤ L) (hk : k < 512) (hj : J k c0 s0 u v) (hP : va_P (dC, dI) vwCl (wL cI cJ cP h ad ad0 ad1 hm adm ao u v fo) H) (hD : va_D (fun q : Nat => s.heap.size ≤ q) (wL cI cJ cP h ad ad0 ad1 hm adm ao u v fo)) (hS : va_S (fun q : Nat => s.heap.size ≤ q) s.heap H locs) (hl : lv_has ls 7 [(0, .ref b), (1, .ref h), (2, .ref hm), (3, .ref ao), (4, .int (nI i))]) (kk : ∀ (c1 s1 : Nat) (u' : cS) (v' : mS) (fo : Nat → Int64) (H : Heap) (locs : List Loc) (ls : Array Slot), J (k + 1) c1 s1 u' v' → va_P (dC, dI) vwCl (wL cI cJ cP h ad ad0 ad1 hm adm ao u' v' fo) H → va_D (fun q : Nat => s.heap.size ≤ q) (wL cI cJ cP h ad ad0 ad1 hm adm ao u' v' fo) → va_S (fun q : Nat => s.heap.size ≤ q) s.heap H locs → lv_has ls 7 [(0, .ref b), (1, .ref h), (2, .ref hm), (3, .ref ao), (4, .int (nI i))] → W p l e room_1 s m #[Value.ref b] below meth c H locs c1 s1 (lw_Z below #[Value.ref b] s) (F0 m 802 ls [])) : W p l e room_1 s m #[Value.ref b] below meth c H locs c0 s0 (lw_Z below #[Value.ref b] s) (F0 m 210 ls []) := by
  obtain ⟨hx, hb, hr, hml, hown, hts, hX, hbl, hlocks, hL, htr, hn, hK, hth, hst⟩ := X
  have hA : ∀ q : Nat, s.heap.size ≤ q → (fun q : Nat => s.heap.size ≤ q) q := fun _ h => h
  have hbA : ¬ (fun q : Nat => s.heap.size ≤ q) b := Nat.not_le.mpr hbl
  obtain ⟨hr1, hr2⟩ := hJ.room (Nat.le_of_lt hk) hj
  obtain ⟨I, R, CI, CJ, CR, CG, EI, ER, Eq, En, V⟩ := u
  obtain ⟨I4, R4⟩ := v
  obtain ⟨mc, ms, Q3, hcm, hsm, hq, hqr⟩ := hJ.picture (xs (nI i + 1).toNatClampNeg) (xs (nI i + 2).toNatClampNeg) (xs (nI i + 3).toNatClampNeg) hk hj
  refine lv_aload_n hx hb dL_law_210 rfl (lv_at hl 1 rfl) ?_
  refine lv_aload_n hx hb dL_law_211 rfl (lv_at hl 0 rfl) ?_
  refine lv_iload hx hb dL_law_212 (lv_at hl 4 rfl) ?_
  refine lv_iconst (v := (1 : Int32)) hx hb dL_law_214 (by decide) ?_
  refine lv_iadd hx hb dL_law_215 ?_
  refine va_sld hx hb hX hbl hbA hS (li1 hi hL) dL_law_216 ?_
  refine lv_aload_n hx hb dL_law_217 rfl (lv_at hl 0 rfl) ?_
  refine lv_iload hx hb dL_law_218 (lv_at hl 4 rfl) ?_
  refine lv_iconst (v := (2 : Int32)) hx hb dL_law_220 (by decide) ?_
  refine lv_iadd hx hb dL_law_221 ?_
  refine va_sld hx hb hX hbl hbA hS (li2 hi hL) dL_law_222 ?_
  refine lv_aload_n hx hb dL_law_223 rfl (lv_at hl 0 rfl) ?_
  refine lv_iload hx hb dL_law_224 (lv_at hl 4 rfl) ?_
  refine lv_iconst (v := (3 : Int32)) hx hb dL_law_226 (by decide) ?_
  refine lv_iadd hx hb dL_law_227 ?_
  refine va_sld hx hb hX hbl hbA hS (li3 hi hL) dL_law_228 ?_
  refine x_calli (w1 := []) (w2 := wd4 cI hm adm I4 R4 ++ [(ao, .inl (cJ, 1, .inr (.inl fo)))]) (wf := fun u : (Nat → Int32) × (Nat → Nat → Int32) × (Nat → Int32) × (Nat → Int64) × (Nat → Nat → Int32) × (Nat → Nat → Int64) × (Nat → Int32) × (Nat → Nat → Int32) × (Nat) × (Nat) × (vS) => wd3 cI cJ cP h ad ad0 ad1 u.1 u.2.1 u.2.2.1 u.2.2.2.1 u.2.2.2.2.1 u.2.2.2.2.2.1 u.2.2.2.2.2.2.1 u.2.2.2.2.2.2.2.1 u.2.2.2.2.2.2.2.2.1 u.2.2.2.2.2.2.2.2.2.1 u.2.2.2.2.2.2.2.2.2.2) (va_runV (As := [.int (xs (nI i + 1).toNatClampNeg), .int (xs (nI i + 2).toNatClampNeg), .int (xs (nI i + 3).toNatClampNeg)]) (rest := []) ⟨hx, hb, hml, hown, hts⟩ (tX3_picture l dC dI cI cJ cP h ad ad0 ad1 _ mc ms Q3 (xs (nI i + 1).toNatClampNeg) (xs (nI i + 2).toNatClampNeg) (xs (nI i + 3).toNatClampNeg) I R CI CJ CR CG EI ER Eq En V hq) (cwV 3 hts gL_law_X3_picture rfl rfl rfl (by decide +kernel) ⟨Nat.le_of_ble_eq_true rfl, Nat.le_of_ble_eq_true rfl⟩) (wPreVN hn hK (vP_l hP) (vD_l hD) (ci := 3) (q0 := 0) rfl rfl) rfl rfl hl.1 rfl (lv_room (Nat.le_of_ble_eq_true rfl)) dL_law_229 ⟨hcm, hsm⟩) hP hD hS hA (fun r u H locs hp hP hD hS => ?_)
  obtain ⟨I, R, CI, CJ, CR, CG, EI, ER, Eq, En, V⟩ := u
  obtain ⟨Q4, hq4, hqr4⟩ := hqr r (I, R, CI, CJ, CR, CG, EI, ER, Eq, En, V) hp
  have hP : va_P (dC, dI) vwCl (wL cI cJ cP h ad ad0 ad1 hm adm ao (I, R, CI, CJ, CR, CG, EI, ER, Eq, En, V) (I4, R4) fo) H := hP
  have hD : va_D (fun q : Nat => s.heap.size ≤ q) (wL cI cJ cP h ad ad0 ad1 hm adm ao (I, R, CI, CJ, CR, CG, EI, ER, Eq, En, V) (I4, R4) fo) := hD
  refine lv_aload_n hx hb dL_law_232 rfl (lv_at hl 2 rfl) ?_
  refine lv_aload_n hx hb dL_law_233 rfl (lv_at hl 0 rfl) ?_
  refine lv_iload hx hb dL_law_234 (lv_at hl 4 rfl) ?_
  refine lv_iconst (v := (1 : Int32)) hx hb dL_law_236 (by decide) ?_
  refine lv_iadd hx hb dL_law_237 ?_
  refine va_sld hx hb hX hbl hbA hS (li1 hi hL) dL_law_238 ?_
  refine lv_aload_n hx hb dL_law_239 rfl (lv_at hl 0 rfl) ?_
  refine lv_iload hx hb dL_law_240 (lv_at hl 4 rfl) ?_
  refine lv_iconst (v := (2 : Int32)) hx hb dL_law_242 (by decide) ?_
  refine lv_iadd hx hb dL_law_243 ?_
  refine va_sld hx hb hX hbl hbA hS (li2 hi hL) dL_law_244 ?_
  refine lv_aload_n hx hb dL_law_245 rfl (lv_at hl 0 rfl) ?_
  refine lv_iload hx hb dL_law_246 (lv_at hl 4 rfl) ?_
  refine lv_iconst (v := (3 : Int32)) hx hb dL_law_248 (by decide) ?_
  refine lv_iadd hx hb dL_law_249 ?_
  refine va_sld hx hb hX hbl hbA hS (li3 hi hL) dL_law_250 ?_
  refine x_calli (w1 := wd3 cI cJ cP h ad ad0 ad1 I R CI CJ CR CG EI ER Eq En V) (w2 := [(ao, .inl (cJ, 1, .inr (.inl fo)))]) (wf := fun u : (Nat → Int32) × (Nat → Nat → Int32) => wd4 cI hm adm u.1 u.2) (va_runV (As := [.int (xs (nI i + 1).toNatClampNeg), .int (xs (nI i + 2).toNatClampNeg), .int (xs (nI i + 3).toNatClampNeg)]) (rest := [.int r]) ⟨hx, hb, hml, hown, hts⟩ (tX4_picture l dC dI cI hm adm _ Q4 (xs (nI i + 1).toNatClampNeg) (xs (nI i + 2).toNatClampNeg) (xs (nI i + 3).toNatClampNeg) I4 R4 hq4) (cwV 3 hts gL_law_X4_picture rfl rfl rfl (by decide +kernel) ⟨Nat.le_of_ble_eq_true rfl, Nat.le_of_ble_eq_true rfl⟩) (wPreV (hK.sub [0] rfl) (vP_l (vP_r hP)) (vD_l (vD_r hD)) (ci := 4) (q0 := 0) rfl rfl) rfl rfl hl.1 rfl (lv_room (Nat.le_of_ble_eq_true rfl)) dL_law_251 ⟨by show c0 + mc + 0 ≤ 601024; omega, by show s0 + ms + 0 ≤ 7293033; omega⟩) hP hD hS hA (fun r4 u4 H locs hp4 hP hD hS => ?_)
  obtain ⟨I4, R4⟩ := u4
  obtain ⟨rfl, hj⟩ := hqr4 r4 (I4, R4) hp4
  have hP : va_P (dC, dI) vwCl (wL cI cJ cP h ad ad0 ad1 hm adm ao (I, R, CI, CJ, CR, CG, EI, ER, Eq, En, V) (I4, R4) fo) H := hP
  have hD : va_D (fun q : Nat => s.heap.size ≤ q) (wL cI cJ cP h ad ad0 ad1 hm adm ao (I, R, CI, CJ, CR, CG, EI, ER, Eq, En, V) (I4, R4) fo) := hD
  refine lv_icmp_eq (tgt := 802) hx hb dL_law_254 (by decide) (fun _ => ?_) (fun hne => absurd rfl hne)
  exact kk _ _ _ _ _ _ _ _ hj hP hD hS hl
set_option maxHeartbeats 4000000 in
set_option maxRecDepth 100000 in
theorem lc_face {p : Program} {l : Launch} {e : Env} {s : State} {m : MethodId} {below : List Frame} {meth : Method} {c : Code} {b L : Nat} {xs : Nat → Int32} {dC : Nat → ClassId} {dI : Nat → Nat → Nat} {cI cJ cP : ClassId} {sa tL tM : Nat} {J : Nat → Nat → Nat → cS → mS → Prop} (hJ : Agree J) (X : LawC p l s m meth c b L xs dC dI cI cJ cP sa tL tM) {h hm ao : Nat} {ad ad0 ad1 adm : Nat → Nat} {i k c0 s0 : Nat} {u : cS} {v : mS} {fo : Nat → Int64} {H : Heap} {locs : List Loc} {ls : Array Slot} (hi : i + 6 ≤ L) (hk : k < 512) (hj : J k c0 s0 u v) (hP : va_P (dC, dI) vwCl (wL cI cJ cP h ad ad0 ad1 hm adm ao u v fo) H) (hD : va_D (fun q : Nat => s.heap.size ≤ q) (wL cI cJ cP h ad ad0 ad1 hm adm ao u v fo)) (hS : va_S (fun q : Nat => s.heap.size ≤ q) s.heap H locs) (hl : lv_has ls 7 [(0, .ref b), (1, .ref h), (2, .ref hm), (3, .ref ao), (4, .int (nI i))]) (kk : ∀ (c1 s1 : Nat) (u' : cS) (v' : mS) (fo : Nat → Int64) (H : Heap) (locs : List Loc) (ls : Array Slot), J (k + 1) c1 s1 u' v' → va_P (dC, dI) vwCl (wL cI cJ cP h ad ad0 ad1 hm adm ao u' v' fo) H → va_D (fun q : Nat => s.heap.size ≤ q) (wL cI cJ cP h ad ad0 ad1 hm adm ao u' v' fo) → va_S (fun q : Nat => s.heap.size ≤ q) s.heap H locs → lv_has ls 7 [(0, .ref b), (1, .ref h), (2, .ref hm), (3, .ref ao), (4, .int (nI i))] → W p l e room_1 s m #[Value.ref b] below meth c H locs c1 s1 (lw_Z below #[Value.ref b] s) (F0 m 802 ls [])) : W p l e room_1 s m #[Value.ref b] below meth c H locs c0 s0 (lw_Z below #[Value.ref b] s) (F0 m 259 ls []) := by
  obtain ⟨hx, hb, hr, hml, hown, hts, hX, hbl, hlocks, hL, htr, hn, hK, hth, hst⟩ := X
  have hA : ∀ q : Nat, s.heap.size ≤ q → (fun q : Nat => s.heap.size ≤ q) q := fun _ h => h
  have hbA : ¬ (fun q : Nat => s.heap.size ≤ q) b := Nat.not_le.mpr hbl
  obtain ⟨hr1, hr2⟩ := hJ.room (Nat.le_of_lt hk) hj
  obtain ⟨I, R, CI, CJ, CR, CG, EI, ER, Eq, En, V⟩ := u
  obtain ⟨I4, R4⟩ := v
  obtain ⟨Q3, hq, hqr⟩ := hJ.face (xs (nI i + 1).toNatClampNeg) (xs (nI i + 2).toNatClampNeg) (xs (nI i + 3).toNatClampNeg) (xs (nI i + 4).toNatClampNeg) (xs (nI i + 5).toNatClampNeg) hk hj
  refine lv_aload_n hx hb dL_law_259 rfl (lv_at hl 1 rfl) ?_
  refine lv_aload_n hx hb dL_law_260 rfl (lv_at hl 0 rfl) ?_
  refine lv_iload hx hb dL_law_261 (lv_at hl 4 rfl) ?_
  refine lv_iconst (v := (1 : Int32)) hx hb dL_law_263 (by decide) ?_
  refine lv_iadd hx hb dL_law_264 ?_
  refine va_sld hx hb hX hbl hbA hS (li1 hi hL) dL_law_265 ?_
  refine lv_aload_n hx hb dL_law_266 rfl (lv_at hl 0 rfl) ?_
  refine lv_iload hx hb dL_law_267 (lv_at hl 4 rfl) ?_
  refine lv_iconst (v := (2 : Int32)) hx hb dL_law_269 (by decide) ?_
  refine lv_iadd hx hb dL_law_270 ?_
  refine va_sld hx hb hX hbl hbA hS (li2 hi hL) dL_law_271 ?_
  refine lv_aload_n hx hb dL_law_272 rfl (lv_at hl 0 rfl) ?_
  refine lv_iload hx hb dL_law_273 (lv_at hl 4 rfl) ?_
  refine lv_iconst (v := (3 : Int32)) hx hb dL_law_275 (by decide) ?_
  refine lv_iadd hx hb dL_law_276 ?_
  refine va_sld hx hb hX hbl hbA hS (li3 hi hL) dL_law_277 ?_
  refine lv_aload_n hx hb dL_law_278 rfl (lv_at hl 0 rfl) ?_
  refine lv_iload hx hb dL_law_279 (lv_at hl 4 rfl) ?_
  refine lv_iconst (v := (4 : Int32)) hx hb dL_law_281 (by decide) ?_
  refine lv_iadd hx hb dL_law_282 ?_
  refine va_sld hx hb hX hbl hbA hS (li4 hi hL) dL_law_283 ?_
  refine lv_aload_n hx hb dL_law_284 rfl (lv_at hl 0 rfl) ?_
  refine lv_iload hx hb dL_law_285 (lv_at hl 4 rfl) ?_
  refine lv_iconst (v := (5 : Int32)) hx hb dL_law_287 (by decide) ?_
  refine lv_iadd hx hb dL_law_288 ?_
  refine va_sld hx hb hX hbl hbA hS (li5 hi hL) dL_law_289 ?_
  refine x_calli (w1 := []) (w2 := wd4 cI hm adm I4 R4 ++ [(ao, .inl (cJ, 1, .inr (.inl fo)))]) (wf := fun u : (Nat → Int32) × (Nat → Nat → Int32) × (Nat → Int32) × (Nat → Int64) × (Nat → Nat → Int32) × (Nat → Nat → Int64) × (Nat → Int32) × (Nat → Nat → Int32) × (Nat) × (Nat) × (vS) => wd3 cI cJ cP h ad ad0 ad1 u.1 u.2.1 u.2.2.1 u.2.2.2.1 u.2.2.2.2.1 u.2.2.2.2.2.1 u.2.2.2.2.2.2.1 u.2.2.2.2.2.2.2.1 u.2.2.2.2.2.2.2.2.1 u.2.2.2.2.2.2.2.2.2.1 u.2.2.2.2.2.2.2.2.2.2) (va_runV (As := [.int (xs (nI i + 1).toNatClampNeg), .int (xs (nI i + 2).toNatClampNeg), .int (xs (nI i + 3).toNatClampNeg), .int (xs (nI i + 4).toNatClampNeg), .int (xs (nI i + 5).toNatClampNeg)]) (rest := []) ⟨hx, hb, hml, hown, hts⟩ (tX3_face l dC dI cI cJ cP h ad ad0 ad1 _ Q3 (xs (nI i + 1).toNatClampNeg) (xs (nI i + 2).toNatClampNeg) (xs (nI i + 3).toNatClampNeg) (xs (nI i + 4).toNatClampNeg) (xs (nI i + 5).toNatClampNeg) I R CI CJ CR CG EI ER Eq En V hq) (cwV 5 hts gL_law_X3_face rfl rfl rfl (by decide +kernel) ⟨Nat.le_of_ble_eq_true rfl, Nat.le_of_ble_eq_true rfl⟩) (wPreVN hn hK (vP_l hP) (vD_l hD) (ci := 3) (q0 := 0) rfl rfl) rfl rfl hl.1 rfl (lv_room (Nat.le_of_ble_eq_true rfl)) dL_law_290 ⟨by show c0 + 0 ≤ 601024; omega, by show s0 + 0 ≤ 7293033; omega⟩) hP hD hS hA (fun r u H locs hp hP hD hS => ?_)
  obtain ⟨I, R, CI, CJ, CR, CG, EI, ER, Eq, En, V⟩ := u
  obtain ⟨Q4, hq4, hqr4⟩ := hqr r (I, R, CI, CJ, CR, CG, EI, ER, Eq, En, V) hp
  have hP : va_P (dC, dI) vwCl (wL cI cJ cP h ad ad0 ad1 hm adm ao (I, R, CI, CJ, CR, CG, EI, ER, Eq, En, V) (I4, R4) fo) H := hP
  have hD : va_D (fun q : Nat => s.heap.size ≤ q) (wL cI cJ cP h ad ad0 ad1 hm adm ao (I, R, CI, CJ, CR, CG, EI, ER, Eq, En, V) (I4, R4) fo) := hD
  refine lv_aload_n hx hb dL_law_293 rfl (lv_at hl 2 rfl) ?_
  refine lv_aload_n hx hb dL_law_294 rfl (lv_at hl 0 rfl) ?_
  refine lv_iload hx hb dL_law_295 (lv_at hl 4 rfl) ?_
  refine lv_iconst (v := (1 : Int32)) hx hb dL_law_297 (by decide) ?_
  refine lv_iadd hx hb dL_law_298 ?_
  refine va_sld hx hb hX hbl hbA hS (li1 hi hL) dL_law_299 ?_
  refine lv_aload_n hx hb dL_law_300 rfl (lv_at hl 0 rfl) ?_
  refine lv_iload hx hb dL_law_301 (lv_at hl 4 rfl) ?_
  refine lv_iconst (v := (2 : Int32)) hx hb dL_law_303 (by decide) ?_
  refine lv_iadd hx hb dL_law_304 ?_
  refine va_sld hx hb hX hbl hbA hS (li2 hi hL) dL_law_305 ?_
  refine lv_aload_n hx hb dL_law_306 rfl (lv_at hl 0 rfl) ?_
  refine lv_iload hx hb dL_law_307 (lv_at hl 4 rfl) ?_
  refine lv_iconst (v := (3 : Int32)) hx hb dL_law_309 (by decide) ?_
  refine lv_iadd hx hb dL_law_310 ?_
  refine va_sld hx hb hX hbl hbA hS (li3 hi hL) dL_law_311 ?_
  refine lv_aload_n hx hb dL_law_312 rfl (lv_at hl 0 rfl) ?_
  refine lv_iload hx hb dL_law_313 (lv_at hl 4 rfl) ?_
  refine lv_iconst (v := (4 : Int32)) hx hb dL_law_315 (by decide) ?_
  refine lv_iadd hx hb dL_law_316 ?_
  refine va_sld hx hb hX hbl hbA hS (li4 hi hL) dL_law_317 ?_
  refine lv_aload_n hx hb dL_law_318 rfl (lv_at hl 0 rfl) ?_
  refine lv_iload hx hb dL_law_319 (lv_at hl 4 rfl) ?_
  refine lv_iconst (v := (5 : Int32)) hx hb dL_law_321 (by decide) ?_
  refine lv_iadd hx hb dL_law_322 ?_
  refine va_sld hx hb hX hbl hbA hS (li5 hi hL) dL_law_323 ?_
  refine x_calli (w1 := wd3 cI cJ cP h ad ad0 ad1 I R CI CJ CR CG EI ER Eq En V) (w2 := [(ao, .inl (cJ, 1, .inr (.inl fo)))]) (wf := fun u : (Nat → Int32) × (Nat → Nat → Int32) => wd4 cI hm adm u.1 u.2) (va_runV (As := [.int (xs (nI i + 1).toNatClampNeg), .int (xs (nI i + 2).toNatClampNeg), .int (xs (nI i + 3).toNatClampNeg), .int (xs (nI i + 4).toNatClampNeg), .int (xs (nI i + 5).toNatClampNeg)]) (rest := [.int r]) ⟨hx, hb, hml, hown, hts⟩ (tX4_face l dC dI cI hm adm _ Q4 (xs (nI i + 1).toNatClampNeg) (xs (nI i + 2).toNatClampNeg) (xs (nI i + 3).toNatClampNeg) (xs (nI i + 4).toNatClampNeg) (xs (nI i + 5).toNatClampNeg) I4 R4 hq4) (cwV 5 hts gL_law_X4_face rfl rfl rfl (by decide +kernel) ⟨Nat.le_of_ble_eq_true rfl, Nat.le_of_ble_eq_true rfl⟩) (wPreV (hK.sub [0] rfl) (vP_l (vP_r hP)) (vD_l (vD_r hD)) (ci := 4) (q0 := 0) rfl rfl) rfl rfl hl.1 rfl (lv_room (Nat.le_of_ble_eq_true rfl)) dL_law_324 ⟨by show c0 + 0 + 0 ≤ 601024; omega, by show s0 + 0 + 0 ≤ 7293033; omega⟩) hP hD hS hA (fun r4 u4 H locs hp4 hP hD hS => ?_)
  obtain ⟨I4, R4⟩ := u4
  obtain ⟨rfl, hj⟩ := hqr4 r4 (I4, R4) hp4
  have hP : va_P (dC, dI) vwCl (wL cI cJ cP h ad ad0 ad1 hm adm ao (I, R, CI, CJ, CR, CG, EI, ER, Eq, En, V) (I4, R4) fo) H := hP
  have hD : va_D (fun q : Nat => s.heap.size ≤ q) (wL cI cJ cP h ad ad0 ad1 hm adm ao (I, R, CI, CJ, CR, CG, EI, ER, Eq, En, V) (I4, R4) fo) := hD
  refine lv_icmp_eq (tgt := 802) hx hb dL_law_327 (by decide) (fun _ => ?_) (fun hne => absurd rfl hne)
  exact kk _ _ _ _ _ _ _ _ hj hP hD hS hl
set_option maxHeartbeats 4000000 in
set_option maxRecDepth 100000 in
theorem lc_set {p : Program} {l : Launch} {e : Env} {s : State} {m : MethodId} {below : List Frame} {meth : Method} {c : Code} {b L : Nat} {xs : Nat → Int32} {dC : Nat → ClassId} {dI : Nat → Nat → Nat} {cI cJ cP : ClassId} {sa tL tM : Nat} {J : Nat → Nat → Nat → cS → mS → Prop} (hJ : Agree J) (X : LawC p l s m meth c b L xs dC dI cI cJ cP sa tL tM) {h hm ao : Nat} {ad ad0 ad1 adm : Nat → Nat} {i k c0 s0 : Nat} {u : cS} {v : mS} {fo : Nat → Int64} {H : Heap} {locs : List Loc} {ls : Array Slot} (hi : i + 6 ≤ L) (hk : k < 512) (hj : J k c0 s0 u v) (hP : va_P (dC, dI) vwCl (wL cI cJ cP h ad ad0 ad1 hm adm ao u v fo) H) (hD : va_D (fun q : Nat => s.heap.size ≤ q) (wL cI cJ cP h ad ad0 ad1 hm adm ao u v fo)) (hS : va_S (fun q : Nat => s.heap.size ≤ q) s.heap H locs) (hl : lv_has ls 7 [(0, .ref b), (1, .ref h), (2, .ref hm), (3, .ref ao), (4, .int (nI i))]) (kk : ∀ (c1 s1 : Nat) (u' : cS) (v' : mS) (fo : Nat → Int64) (H : Heap) (locs : List Loc) (ls : Array Slot), J (k + 1) c1 s1 u' v' → va_P (dC, dI) vwCl (wL cI cJ cP h ad ad0 ad1 hm adm ao u' v' fo) H → va_D (fun q : Nat => s.heap.size ≤ q) (wL cI cJ cP h ad ad0 ad1 hm adm ao u' v' fo) → va_S (fun q : Nat => s.heap.size ≤ q) s.heap H locs → lv_has ls 7 [(0, .ref b), (1, .ref h), (2, .ref hm), (3, .ref ao), (4, .int (nI i))] → W p l e room_1 s m #[Value.ref b] below meth c H locs c1 s1 (lw_Z below #[Value.ref b] s) (F0 m 802 ls [])) : W p l e room_1 s m #[Value.ref b] below meth c H locs c0 s0 (lw_Z below #[Value.ref b] s) (F0 m 332 ls []) := by
  obtain ⟨hx, hb, hr, hml, hown, hts, hX, hbl, hlocks, hL, htr, hn, hK, hth, hst⟩ := X
  have hA : ∀ q : Nat, s.heap.size ≤ q → (fun q : Nat => s.heap.size ≤ q) q := fun _ h => h
  have hbA : ¬ (fun q : Nat => s.heap.size ≤ q) b := Nat.not_le.mpr hbl
  obtain ⟨hr1, hr2⟩ := hJ.room (Nat.le_of_lt hk) hj
  obtain ⟨I, R, CI, CJ, CR, CG, EI, ER, Eq, En, V⟩ := u
  obtain ⟨I4, R4⟩ := v
  obtain ⟨Q3, hq, hqr⟩ := hJ.set (xs (nI i + 1).toNatClampNeg) (xs (nI i + 2).toNatClampNeg) hk hj
  refine lv_aload_n hx hb dL_law_332 rfl (lv_at hl 1 rfl) ?_
  refine lv_aload_n hx hb dL_law_333 rfl (lv_at hl 0 rfl) ?_
  refine lv_iload hx hb dL_law_334 (lv_at hl 4 rfl) ?_
  refine lv_iconst (v := (1 : Int32)) hx hb dL_law_336 (by decide) ?_
  refine lv_iadd hx hb dL_law_337 ?_
  refine va_sld hx hb hX hbl hbA hS (li1 hi hL) dL_law_338 ?_
  refine lv_aload_n hx hb dL_law_339 rfl (lv_at hl 0 rfl) ?_
  refine lv_iload hx hb dL_law_340 (lv_at hl 4 rfl) ?_
  refine lv_iconst (v := (2 : Int32)) hx hb dL_law_342 (by decide) ?_
  refine lv_iadd hx hb dL_law_343 ?_
  refine va_sld hx hb hX hbl hbA hS (li2 hi hL) dL_law_344 ?_
  refine x_calli (w1 := []) (w2 := wd4 cI hm adm I4 R4 ++ [(ao, .inl (cJ, 1, .inr (.inl fo)))]) (wf := fun u : (Nat → Int32) × (Nat → Nat → Int32) × (Nat → Int32) × (Nat → Int64) × (Nat → Nat → Int32) × (Nat → Nat → Int64) × (Nat → Int32) × (Nat → Nat → Int32) × (Nat) × (Nat) × (vS) => wd3 cI cJ cP h ad ad0 ad1 u.1 u.2.1 u.2.2.1 u.2.2.2.1 u.2.2.2.2.1 u.2.2.2.2.2.1 u.2.2.2.2.2.2.1 u.2.2.2.2.2.2.2.1 u.2.2.2.2.2.2.2.2.1 u.2.2.2.2.2.2.2.2.2.1 u.2.2.2.2.2.2.2.2.2.2) (va_runV (As := [.int (xs (nI i + 1).toNatClampNeg), .int (xs (nI i + 2).toNatClampNeg)]) (rest := []) ⟨hx, hb, hml, hown, hts⟩ (tX3_set l dC dI cI cJ cP h ad ad0 ad1 tL tM _ Q3 (xs (nI i + 1).toNatClampNeg) (xs (nI i + 2).toNatClampNeg) I R CI CJ CR CG EI ER Eq En V hq) (cwV 2 hts gL_law_X3_set rfl rfl rfl (by decide +kernel) ⟨Nat.le_of_ble_eq_true rfl, Nat.le_of_ble_eq_true rfl⟩) (wPreVF hn hst hS hA hK (vP_l hP) (vD_l hD) (ci := 3) (q0 := 0) rfl rfl) rfl rfl hl.1 rfl (lv_room (Nat.le_of_ble_eq_true rfl)) dL_law_345 ⟨by show c0 + 0 ≤ 601024; omega, by show s0 + 0 ≤ 7293033; omega⟩) hP hD hS hA (fun r u H locs hp hP hD hS => ?_)
  obtain ⟨I, R, CI, CJ, CR, CG, EI, ER, Eq, En, V⟩ := u
  obtain ⟨Q4, hq4, hqr4⟩ := hqr r (I, R, CI, CJ, CR, CG, EI, ER, Eq, En, V) hp
  have hP : va_P (dC, dI) vwCl (wL cI cJ cP h ad ad0 ad1 hm adm ao (I, R, CI, CJ, CR, CG, EI, ER, Eq, En, V) (I4, R4) fo) H := hP
  have hD : va_D (fun q : Nat => s.heap.size ≤ q) (wL cI cJ cP h ad ad0 ad1 hm adm ao (I, R, CI, CJ, CR, CG, EI, ER, Eq, En, V) (I4, R4) fo) := hD
  refine lv_aload_n hx hb dL_law_348 rfl (lv_at hl 2 rfl) ?_
  refine lv_aload_n hx hb dL_law_349 rfl (lv_at hl 0 rfl) ?_
  refine lv_iload hx hb dL_law_350 (lv_at hl 4 rfl) ?_
  refine lv_iconst (v := (1 : Int32)) hx hb dL_law_352 (by decide) ?_
  refine lv_iadd hx hb dL_law_353 ?_
  refine va_sld hx hb hX hbl hbA hS (li1 hi hL) dL_law_354 ?_
  refine lv_aload_n hx hb dL_law_355 rfl (lv_at hl 0 rfl) ?_
  refine lv_iload hx hb dL_law_356 (lv_at hl 4 rfl) ?_
  refine lv_iconst (v := (2 : Int32)) hx hb dL_law_358 (by decide) ?_
  refine lv_iadd hx hb dL_law_359 ?_
  refine va_sld hx hb hX hbl hbA hS (li2 hi hL) dL_law_360 ?_
  refine x_calli (w1 := wd3 cI cJ cP h ad ad0 ad1 I R CI CJ CR CG EI ER Eq En V) (w2 := [(ao, .inl (cJ, 1, .inr (.inl fo)))]) (wf := fun u : (Nat → Int32) × (Nat → Nat → Int32) => wd4 cI hm adm u.1 u.2) (va_runV (As := [.int (xs (nI i + 1).toNatClampNeg), .int (xs (nI i + 2).toNatClampNeg)]) (rest := [.int r]) ⟨hx, hb, hml, hown, hts⟩ (tX4_set l dC dI cI hm adm _ Q4 (xs (nI i + 1).toNatClampNeg) (xs (nI i + 2).toNatClampNeg) I4 R4 hq4) (cwV 2 hts gL_law_X4_set rfl rfl rfl (by decide +kernel) ⟨Nat.le_of_ble_eq_true rfl, Nat.le_of_ble_eq_true rfl⟩) (wPreV (hK.sub [0] rfl) (vP_l (vP_r hP)) (vD_l (vD_r hD)) (ci := 4) (q0 := 0) rfl rfl) rfl rfl hl.1 rfl (lv_room (Nat.le_of_ble_eq_true rfl)) dL_law_361 ⟨by show c0 + 0 + 0 ≤ 601024; omega, by show s0 + 0 + 0 ≤ 7293033; omega⟩) hP hD hS hA (fun r4 u4 H locs hp4 hP hD hS => ?_)
  obtain ⟨I4, R4⟩ := u4
  obtain ⟨rfl, hj⟩ := hqr4 r4 (I4, R4) hp4
  have hP : va_P (dC, dI) vwCl (wL cI cJ cP h ad ad0 ad1 hm adm ao (I, R, CI, CJ, CR, CG, EI, ER, Eq, En, V) (I4, R4) fo) H := hP
  have hD : va_D (fun q : Nat => s.heap.size ≤ q) (wL cI cJ cP h ad ad0 ad1 hm adm ao (I, R, CI, CJ, CR, CG, EI, ER, Eq, En, V) (I4, R4) fo) := hD
  refine lv_icmp_eq (tgt := 802) hx hb dL_law_364 (by decide) (fun _ => ?_) (fun hne => absurd rfl hne)
  exact kk _ _ _ _ _ _ _ _ hj hP hD hS hl
set_option maxHeartbeats 4000000 in
set_option maxRecDepth 100000 in
theorem lc_count {p : Program} {l : Launch} {e : Env} {s : State} {m : MethodId} {below : List Frame} {meth : Method} {c : Code} {b L : Nat} {xs : Nat → Int32} {dC : Nat → ClassId} {dI : Nat → Nat → Nat} {cI cJ cP : ClassId} {sa tL tM : Nat} {J : Nat → Nat → Nat → cS → mS → Prop} (hJ : Agree J) (X : LawC p l s m meth c b L xs dC dI cI cJ cP sa tL tM) {h hm ao : Nat} {ad ad0 ad1 adm : Nat → Nat} {i k c0 s0 : Nat} {u : cS} {v : mS} {fo : Nat → Int64} {H : Heap} {locs : List Loc} {ls : Array Slot} (hi : i + 6 ≤ L) (hk : k < 512) (hj : J k c0 s0 u v) (hP : va_P (dC, dI) vwCl (wL cI cJ cP h ad ad0 ad1 hm adm ao u v fo) H) (hD : va_D (fun q : Nat => s.heap.size ≤ q) (wL cI cJ cP h ad ad0 ad1 hm adm ao u v fo)) (hS : va_S (fun q : Nat => s.heap.size ≤ q) s.heap H locs) (hl : lv_has ls 7 [(0, .ref b), (1, .ref h), (2, .ref hm), (3, .ref ao), (4, .int (nI i))]) (kk : ∀ (c1 s1 : Nat) (u' : cS) (v' : mS) (fo : Nat → Int64) (H : Heap) (locs : List Loc) (ls : Array Slot), J (k + 1) c1 s1 u' v' → va_P (dC, dI) vwCl (wL cI cJ cP h ad ad0 ad1 hm adm ao u' v' fo) H → va_D (fun q : Nat => s.heap.size ≤ q) (wL cI cJ cP h ad ad0 ad1 hm adm ao u' v' fo) → va_S (fun q : Nat => s.heap.size ≤ q) s.heap H locs → lv_has ls 7 [(0, .ref b), (1, .ref h), (2, .ref hm), (3, .ref ao), (4, .int (nI i))] → W p l e room_1 s m #[Value.ref b] below meth c H locs c1 s1 (lw_Z below #[Value.ref b] s) (F0 m 802 ls [])) : W p l e room_1 s m #[Value.ref b] below meth c H locs c0 s0 (lw_Z below #[Value.ref b] s) (F0 m 369 ls []) := by
  obtain ⟨hx, hb, hr, hml, hown, hts, hX, hbl, hlocks, hL, htr, hn, hK, hth, hst⟩ := X
  have hA : ∀ q : Nat, s.heap.size ≤ q → (fun q : Nat => s.heap.size ≤ q) q := fun _ h => h
  have hbA : ¬ (fun q : Nat => s.heap.size ≤ q) b := Nat.not_le.mpr hbl
  obtain ⟨hr1, hr2⟩ := hJ.room (Nat.le_of_lt hk) hj
  obtain ⟨I, R, CI, CJ, CR, CG, EI, ER, Eq, En, V⟩ := u
  obtain ⟨I4, R4⟩ := v
  obtain ⟨Q3, hq, hqr⟩ := hJ.count (xs (nI i + 1).toNatClampNeg) hk hj
  refine lv_aload_n hx hb dL_law_369 rfl (lv_at hl 1 rfl) ?_
  refine lv_aload_n hx hb dL_law_370 rfl (lv_at hl 0 rfl) ?_
  refine lv_iload hx hb dL_law_371 (lv_at hl 4 rfl) ?_
  refine lv_iconst (v := (1 : Int32)) hx hb dL_law_373 (by decide) ?_
  refine lv_iadd hx hb dL_law_374 ?_
  refine va_sld hx hb hX hbl hbA hS (li1 hi hL) dL_law_375 ?_
  refine x_calli (w1 := []) (w2 := wd4 cI hm adm I4 R4 ++ [(ao, .inl (cJ, 1, .inr (.inl fo)))]) (wf := fun _ : Unit => wd3 cI cJ cP h ad ad0 ad1 I R CI CJ CR CG EI ER Eq En V) (va_runV (As := [.int (xs (nI i + 1).toNatClampNeg)]) (rest := []) ⟨hx, hb, hml, hown, hts⟩ (tX3_count l dC dI cI cJ cP h ad ad0 ad1 _ Q3 (xs (nI i + 1).toNatClampNeg) I R CI CJ CR CG EI ER Eq En V hq) (cwV 1 hts gL_law_X3_count rfl rfl rfl (by decide +kernel) ⟨Nat.le_of_ble_eq_true rfl, Nat.le_of_ble_eq_true rfl⟩) (wPreVN hn hK (vP_l hP) (vD_l hD) (ci := 3) (q0 := 0) rfl rfl) rfl rfl hl.1 rfl (lv_room (Nat.le_of_ble_eq_true rfl)) dL_law_376 ⟨by show c0 + 0 ≤ 601024; omega, by show s0 + 0 ≤ 7293033; omega⟩) hP hD hS hA (fun r u H locs hp hP hD hS => ?_)
  obtain ⟨Q4, hq4, hqr4⟩ := hqr r hp
  have hP : va_P (dC, dI) vwCl (wL cI cJ cP h ad ad0 ad1 hm adm ao (I, R, CI, CJ, CR, CG, EI, ER, Eq, En, V) (I4, R4) fo) H := hP
  have hD : va_D (fun q : Nat => s.heap.size ≤ q) (wL cI cJ cP h ad ad0 ad1 hm adm ao (I, R, CI, CJ, CR, CG, EI, ER, Eq, En, V) (I4, R4) fo) := hD
  refine lv_aload_n hx hb dL_law_379 rfl (lv_at hl 2 rfl) ?_
  refine lv_aload_n hx hb dL_law_380 rfl (lv_at hl 0 rfl) ?_
  refine lv_iload hx hb dL_law_381 (lv_at hl 4 rfl) ?_
  refine lv_iconst (v := (1 : Int32)) hx hb dL_law_383 (by decide) ?_
  refine lv_iadd hx hb dL_law_384 ?_
  refine va_sld hx hb hX hbl hbA hS (li1 hi hL) dL_law_385 ?_
  refine x_calli (w1 := wd3 cI cJ cP h ad ad0 ad1 I R CI CJ CR CG EI ER Eq En V) (w2 := [(ao, .inl (cJ, 1, .inr (.inl fo)))]) (wf := fun u : (Nat → Int32) × (Nat → Nat → Int32) => wd4 cI hm adm u.1 u.2) (va_runV (As := [.int (xs (nI i + 1).toNatClampNeg)]) (rest := [.int r]) ⟨hx, hb, hml, hown, hts⟩ (tX4_count l dC dI cI hm adm _ Q4 (xs (nI i + 1).toNatClampNeg) I4 R4 hq4) (cwV 1 hts gL_law_X4_count rfl rfl rfl (by decide +kernel) ⟨Nat.le_of_ble_eq_true rfl, Nat.le_of_ble_eq_true rfl⟩) (wPreV (hK.sub [0] rfl) (vP_l (vP_r hP)) (vD_l (vD_r hD)) (ci := 4) (q0 := 0) rfl rfl) rfl rfl hl.1 rfl (lv_room (Nat.le_of_ble_eq_true rfl)) dL_law_386 ⟨by show c0 + 0 + 0 ≤ 601024; omega, by show s0 + 0 + 0 ≤ 7293033; omega⟩) hP hD hS hA (fun r4 u4 H locs hp4 hP hD hS => ?_)
  obtain ⟨I4, R4⟩ := u4
  obtain ⟨rfl, hj⟩ := hqr4 r4 (I4, R4) hp4
  have hP : va_P (dC, dI) vwCl (wL cI cJ cP h ad ad0 ad1 hm adm ao (I, R, CI, CJ, CR, CG, EI, ER, Eq, En, V) (I4, R4) fo) H := hP
  have hD : va_D (fun q : Nat => s.heap.size ≤ q) (wL cI cJ cP h ad ad0 ad1 hm adm ao (I, R, CI, CJ, CR, CG, EI, ER, Eq, En, V) (I4, R4) fo) := hD
  refine lv_icmp_eq (tgt := 802) hx hb dL_law_389 (by decide) (fun _ => ?_) (fun hne => absurd rfl hne)
  exact kk _ _ _ _ _ _ _ _ hj hP hD hS hl
set_option maxHeartbeats 4000000 in
set_option maxRecDepth 100000 in
theorem lc_name {p : Program} {l : Launch} {e : Env} {s : State} {m : MethodId} {below : List Frame} {meth : Method} {c : Code} {b L : Nat} {xs : Nat → Int32} {dC : Nat → ClassId} {dI : Nat → Nat → Nat} {cI cJ cP : ClassId} {sa tL tM : Nat} {J : Nat → Nat → Nat → cS → mS → Prop} (hJ : Agree J) (X : LawC p l s m meth c b L xs dC dI cI cJ cP sa tL tM) {h hm ao : Nat} {ad ad0 ad1 adm : Nat → Nat} {i k c0 s0 : Nat} {u : cS} {v : mS} {fo : Nat → Int64} {H : Heap} {locs : List Loc} {ls : Array Slot} (hi : i + 6 ≤ L) (hk : k < 512) (hj : J k c0 s0 u v) (hP : va_P (dC, dI) vwCl (wL cI cJ cP h ad ad0 ad1 hm adm ao u v fo) H) (hD : va_D (fun q : Nat => s.heap.size ≤ q) (wL cI cJ cP h ad ad0 ad1 hm adm ao u v fo)) (hS : va_S (fun q : Nat => s.heap.size ≤ q) s.heap H locs) (hl : lv_has ls 7 [(0, .ref b), (1, .ref h), (2, .ref hm), (3, .ref ao), (4, .int (nI i))]) (kk : ∀ (c1 s1 : Nat) (u' : cS) (v' : mS) (fo : Nat → Int64) (H : Heap) (locs : List Loc) (ls : Array Slot), J (k + 1) c1 s1 u' v' → va_P (dC, dI) vwCl (wL cI cJ cP h ad ad0 ad1 hm adm ao u' v' fo) H → va_D (fun q : Nat => s.heap.size ≤ q) (wL cI cJ cP h ad ad0 ad1 hm adm ao u' v' fo) → va_S (fun q : Nat => s.heap.size ≤ q) s.heap H locs → lv_has ls 7 [(0, .ref b), (1, .ref h), (2, .ref hm), (3, .ref ao), (4, .int (nI i))] → W p l e room_1 s m #[Value.ref b] below meth c H locs c1 s1 (lw_Z below #[Value.ref b] s) (F0 m 802 ls [])) : W p l e room_1 s m #[Value.ref b] below meth c H locs c0 s0 (lw_Z below #[Value.ref b] s) (F0 m 462 ls []) := by
  obtain ⟨hx, hb, hr, hml, hown, hts, hX, hbl, hlocks, hL, htr, hn, hK, hth, hst⟩ := X
  have hA : ∀ q : Nat, s.heap.size ≤ q → (fun q : Nat => s.heap.size ≤ q) q := fun _ h => h
  have hbA : ¬ (fun q : Nat => s.heap.size ≤ q) b := Nat.not_le.mpr hbl
  obtain ⟨hr1, hr2⟩ := hJ.room (Nat.le_of_lt hk) hj
  obtain ⟨I, R, CI, CJ, CR, CG, EI, ER, Eq, En, V⟩ := u
  obtain ⟨I4, R4⟩ := v
  obtain ⟨Q3, hq, hqr⟩ := hJ.name (xs (nI i + 1).toNatClampNeg) (xs (nI i + 2).toNatClampNeg) hk hj
  refine lv_aload_n hx hb dL_law_462 rfl (lv_at hl 1 rfl) ?_
  refine lv_aload_n hx hb dL_law_463 rfl (lv_at hl 0 rfl) ?_
  refine lv_iload hx hb dL_law_464 (lv_at hl 4 rfl) ?_
  refine lv_iconst (v := (1 : Int32)) hx hb dL_law_466 (by decide) ?_
  refine lv_iadd hx hb dL_law_467 ?_
  refine va_sld hx hb hX hbl hbA hS (li1 hi hL) dL_law_468 ?_
  refine lv_aload_n hx hb dL_law_469 rfl (lv_at hl 0 rfl) ?_
  refine lv_iload hx hb dL_law_470 (lv_at hl 4 rfl) ?_
  refine lv_iconst (v := (2 : Int32)) hx hb dL_law_472 (by decide) ?_
  refine lv_iadd hx hb dL_law_473 ?_
  refine va_sld hx hb hX hbl hbA hS (li2 hi hL) dL_law_474 ?_
  refine x_calli (w1 := []) (w2 := wd4 cI hm adm I4 R4 ++ [(ao, .inl (cJ, 1, .inr (.inl fo)))]) (wf := fun _ : Unit => wd3 cI cJ cP h ad ad0 ad1 I R CI CJ CR CG EI ER Eq En V) (va_runV (As := [.int (xs (nI i + 1).toNatClampNeg), .int (xs (nI i + 2).toNatClampNeg)]) (rest := []) ⟨hx, hb, hml, hown, hts⟩ (tX3_name l dC dI cI cJ cP h ad ad0 ad1 _ Q3 (xs (nI i + 1).toNatClampNeg) (xs (nI i + 2).toNatClampNeg) I R CI CJ CR CG EI ER Eq En V hq) (cwV 2 hts gL_law_X3_name rfl rfl rfl (by decide +kernel) ⟨Nat.le_of_ble_eq_true rfl, Nat.le_of_ble_eq_true rfl⟩) (wPreVN hn hK (vP_l hP) (vD_l hD) (ci := 3) (q0 := 0) rfl rfl) rfl rfl hl.1 rfl (lv_room (Nat.le_of_ble_eq_true rfl)) dL_law_475 ⟨by show c0 + 0 ≤ 601024; omega, by show s0 + 0 ≤ 7293033; omega⟩) hP hD hS hA (fun r u H locs hp hP hD hS => ?_)
  obtain ⟨Q4, hq4, hqr4⟩ := hqr r hp
  have hP : va_P (dC, dI) vwCl (wL cI cJ cP h ad ad0 ad1 hm adm ao (I, R, CI, CJ, CR, CG, EI, ER, Eq, En, V) (I4, R4) fo) H := hP
  have hD : va_D (fun q : Nat => s.heap.size ≤ q) (wL cI cJ cP h ad ad0 ad1 hm adm ao (I, R, CI, CJ, CR, CG, EI, ER, Eq, En, V) (I4, R4) fo) := hD
  refine lv_aload_n hx hb dL_law_478 rfl (lv_at hl 2 rfl) ?_
  refine lv_aload_n hx hb dL_law_479 rfl (lv_at hl 0 rfl) ?_
  refine lv_iload hx hb dL_law_480 (lv_at hl 4 rfl) ?_
  refine lv_iconst (v := (1 : Int32)) hx hb dL_law_482 (by decide) ?_
  refine lv_iadd hx hb dL_law_483 ?_
  refine va_sld hx hb hX hbl hbA hS (li1 hi hL) dL_law_484 ?_
  refine lv_aload_n hx hb dL_law_485 rfl (lv_at hl 0 rfl) ?_
  refine lv_iload hx hb dL_law_486 (lv_at hl 4 rfl) ?_
  refine lv_iconst (v := (2 : Int32)) hx hb dL_law_488 (by decide) ?_
  refine lv_iadd hx hb dL_law_489 ?_
  refine va_sld hx hb hX hbl hbA hS (li2 hi hL) dL_law_490 ?_
  refine x_calli (w1 := wd3 cI cJ cP h ad ad0 ad1 I R CI CJ CR CG EI ER Eq En V) (w2 := [(ao, .inl (cJ, 1, .inr (.inl fo)))]) (wf := fun u : (Nat → Int32) × (Nat → Nat → Int32) => wd4 cI hm adm u.1 u.2) (va_runV (As := [.int (xs (nI i + 1).toNatClampNeg), .int (xs (nI i + 2).toNatClampNeg)]) (rest := [.int r]) ⟨hx, hb, hml, hown, hts⟩ (tX4_name l dC dI cI hm adm _ Q4 (xs (nI i + 1).toNatClampNeg) (xs (nI i + 2).toNatClampNeg) I4 R4 hq4) (cwV 2 hts gL_law_X4_name rfl rfl rfl (by decide +kernel) ⟨Nat.le_of_ble_eq_true rfl, Nat.le_of_ble_eq_true rfl⟩) (wPreV (hK.sub [0] rfl) (vP_l (vP_r hP)) (vD_l (vD_r hD)) (ci := 4) (q0 := 0) rfl rfl) rfl rfl hl.1 rfl (lv_room (Nat.le_of_ble_eq_true rfl)) dL_law_491 ⟨by show c0 + 0 + 0 ≤ 601024; omega, by show s0 + 0 + 0 ≤ 7293033; omega⟩) hP hD hS hA (fun r4 u4 H locs hp4 hP hD hS => ?_)
  obtain ⟨I4, R4⟩ := u4
  obtain ⟨rfl, hj⟩ := hqr4 r4 (I4, R4) hp4
  have hP : va_P (dC, dI) vwCl (wL cI cJ cP h ad ad0 ad1 hm adm ao (I, R, CI, CJ, CR, CG, EI, ER, Eq, En, V) (I4, R4) fo) H := hP
  have hD : va_D (fun q : Nat => s.heap.size ≤ q) (wL cI cJ cP h ad ad0 ad1 hm adm ao (I, R, CI, CJ, CR, CG, EI, ER, Eq, En, V) (I4, R4) fo) := hD
  refine lv_icmp_eq (tgt := 802) hx hb dL_law_494 (by decide) (fun _ => ?_) (fun hne => absurd rfl hne)
  exact kk _ _ _ _ _ _ _ _ hj hP hD hS hl
set_option maxHeartbeats 4000000 in
set_option maxRecDepth 100000 in
theorem lc_seen {p : Program} {l : Launch} {e : Env} {s : State} {m : MethodId} {below : List Frame} {meth : Method} {c : Code} {b L : Nat} {xs : Nat → Int32} {dC : Nat → ClassId} {dI : Nat → Nat → Nat} {cI cJ cP : ClassId} {sa tL tM : Nat} {J : Nat → Nat → Nat → cS → mS → Prop} (hJ : Agree J) (X : LawC p l s m meth c b L xs dC dI cI cJ cP sa tL tM) {h hm ao : Nat} {ad ad0 ad1 adm : Nat → Nat} {i k c0 s0 : Nat} {u : cS} {v : mS} {fo : Nat → Int64} {H : Heap} {locs : List Loc} {ls : Array Slot} (hi : i + 6 ≤ L) (hk : k < 512) (hj : J k c0 s0 u v) (hP : va_P (dC, dI) vwCl (wL cI cJ cP h ad ad0 ad1 hm adm ao u v fo) H) (hD : va_D (fun q : Nat => s.heap.size ≤ q) (wL cI cJ cP h ad ad0 ad1 hm adm ao u v fo)) (hS : va_S (fun q : Nat => s.heap.size ≤ q) s.heap H locs) (hl : lv_has ls 7 [(0, .ref b), (1, .ref h), (2, .ref hm), (3, .ref ao), (4, .int (nI i))]) (kk : ∀ (c1 s1 : Nat) (u' : cS) (v' : mS) (fo : Nat → Int64) (H : Heap) (locs : List Loc) (ls : Array Slot), J (k + 1) c1 s1 u' v' → va_P (dC, dI) vwCl (wL cI cJ cP h ad ad0 ad1 hm adm ao u' v' fo) H → va_D (fun q : Nat => s.heap.size ≤ q) (wL cI cJ cP h ad ad0 ad1 hm adm ao u' v' fo) → va_S (fun q : Nat => s.heap.size ≤ q) s.heap H locs → lv_has ls 7 [(0, .ref b), (1, .ref h), (2, .ref hm), (3, .ref ao), (4, .int (nI i))] → W p l e room_1 s m #[Value.ref b] below meth c H locs c1 s1 (lw_Z below #[Value.ref b] s) (F0 m 802 ls [])) : W p l e room_1 s m #[Value.ref b] below meth c H locs c0 s0 (lw_Z below #[Value.ref b] s) (F0 m 499 ls []) := by
  obtain ⟨hx, hb, hr, hml, hown, hts, hX, hbl, hlocks, hL, htr, hn, hK, hth, hst⟩ := X
  have hA : ∀ q : Nat, s.heap.size ≤ q → (fun q : Nat => s.heap.size ≤ q) q := fun _ h => h
  have hbA : ¬ (fun q : Nat => s.heap.size ≤ q) b := Nat.not_le.mpr hbl
  obtain ⟨hr1, hr2⟩ := hJ.room (Nat.le_of_lt hk) hj
  obtain ⟨I, R, CI, CJ, CR, CG, EI, ER, Eq, En, V⟩ := u
  obtain ⟨I4, R4⟩ := v
  obtain ⟨Q3, hq, hqr⟩ := hJ.seen (xs (nI i + 1).toNatClampNeg) hk hj
  refine lv_aload_n hx hb dL_law_499 rfl (lv_at hl 1 rfl) ?_
  refine lv_aload_n hx hb dL_law_500 rfl (lv_at hl 0 rfl) ?_
  refine lv_iload hx hb dL_law_501 (lv_at hl 4 rfl) ?_
  refine lv_iconst (v := (1 : Int32)) hx hb dL_law_503 (by decide) ?_
  refine lv_iadd hx hb dL_law_504 ?_
  refine va_sld hx hb hX hbl hbA hS (li1 hi hL) dL_law_505 ?_
  refine x_calli (w1 := []) (w2 := wd4 cI hm adm I4 R4 ++ [(ao, .inl (cJ, 1, .inr (.inl fo)))]) (wf := fun _ : Unit => wd3 cI cJ cP h ad ad0 ad1 I R CI CJ CR CG EI ER Eq En V) (va_runV (As := [.int (xs (nI i + 1).toNatClampNeg)]) (rest := []) ⟨hx, hb, hml, hown, hts⟩ (tX3_seen l dC dI cI cJ cP h ad ad0 ad1 _ Q3 (xs (nI i + 1).toNatClampNeg) I R CI CJ CR CG EI ER Eq En V hq) (cwV 1 hts gL_law_X3_seen rfl rfl rfl (by decide +kernel) ⟨Nat.le_of_ble_eq_true rfl, Nat.le_of_ble_eq_true rfl⟩) (wPreVN hn hK (vP_l hP) (vD_l hD) (ci := 3) (q0 := 0) rfl rfl) rfl rfl hl.1 rfl (lv_room (Nat.le_of_ble_eq_true rfl)) dL_law_506 ⟨by show c0 + 0 ≤ 601024; omega, by show s0 + 0 ≤ 7293033; omega⟩) hP hD hS hA (fun r u H locs hp hP hD hS => ?_)
  obtain ⟨Q4, hq4, hqr4⟩ := hqr r hp
  have hP : va_P (dC, dI) vwCl (wL cI cJ cP h ad ad0 ad1 hm adm ao (I, R, CI, CJ, CR, CG, EI, ER, Eq, En, V) (I4, R4) fo) H := hP
  have hD : va_D (fun q : Nat => s.heap.size ≤ q) (wL cI cJ cP h ad ad0 ad1 hm adm ao (I, R, CI, CJ, CR, CG, EI, ER, Eq, En, V) (I4, R4) fo) := hD
  refine lv_aload_n hx hb dL_law_509 rfl (lv_at hl 2 rfl) ?_
  refine lv_aload_n hx hb dL_law_510 rfl (lv_at hl 0 rfl) ?_
  refine lv_iload hx hb dL_law_511 (lv_at hl 4 rfl) ?_
  refine lv_iconst (v := (1 : Int32)) hx hb dL_law_513 (by decide) ?_
  refine lv_iadd hx hb dL_law_514 ?_
  refine va_sld hx hb hX hbl hbA hS (li1 hi hL) dL_law_515 ?_
  refine x_calli (w1 := wd3 cI cJ cP h ad ad0 ad1 I R CI CJ CR CG EI ER Eq En V) (w2 := [(ao, .inl (cJ, 1, .inr (.inl fo)))]) (wf := fun u : (Nat → Int32) × (Nat → Nat → Int32) => wd4 cI hm adm u.1 u.2) (va_runV (As := [.int (xs (nI i + 1).toNatClampNeg)]) (rest := [.int r]) ⟨hx, hb, hml, hown, hts⟩ (tX4_seen l dC dI cI hm adm _ Q4 (xs (nI i + 1).toNatClampNeg) I4 R4 hq4) (cwV 1 hts gL_law_X4_seen rfl rfl rfl (by decide +kernel) ⟨Nat.le_of_ble_eq_true rfl, Nat.le_of_ble_eq_true rfl⟩) (wPreV (hK.sub [0] rfl) (vP_l (vP_r hP)) (vD_l (vD_r hD)) (ci := 4) (q0 := 0) rfl rfl) rfl rfl hl.1 rfl (lv_room (Nat.le_of_ble_eq_true rfl)) dL_law_516 ⟨by show c0 + 0 + 0 ≤ 601024; omega, by show s0 + 0 + 0 ≤ 7293033; omega⟩) hP hD hS hA (fun r4 u4 H locs hp4 hP hD hS => ?_)
  obtain ⟨I4, R4⟩ := u4
  obtain ⟨rfl, hj⟩ := hqr4 r4 (I4, R4) hp4
  have hP : va_P (dC, dI) vwCl (wL cI cJ cP h ad ad0 ad1 hm adm ao (I, R, CI, CJ, CR, CG, EI, ER, Eq, En, V) (I4, R4) fo) H := hP
  have hD : va_D (fun q : Nat => s.heap.size ≤ q) (wL cI cJ cP h ad ad0 ad1 hm adm ao (I, R, CI, CJ, CR, CG, EI, ER, Eq, En, V) (I4, R4) fo) := hD
  refine lv_icmp_eq (tgt := 802) hx hb dL_law_519 (by decide) (fun _ => ?_) (fun hne => absurd rfl hne)
  exact kk _ _ _ _ _ _ _ _ hj hP hD hS hl
set_option maxHeartbeats 4000000 in
set_option maxRecDepth 100000 in
theorem lc_proof {p : Program} {l : Launch} {e : Env} {s : State} {m : MethodId} {below : List Frame} {meth : Method} {c : Code} {b L : Nat} {xs : Nat → Int32} {dC : Nat → ClassId} {dI : Nat → Nat → Nat} {cI cJ cP : ClassId} {sa tL tM : Nat} {J : Nat → Nat → Nat → cS → mS → Prop} (hJ : Agree J) (X : LawC p l s m meth c b L xs dC dI cI cJ cP sa tL tM) {h hm ao : Nat} {ad ad0 ad1 adm : Nat → Nat} {i k c0 s0 : Nat} {u : cS} {v : mS} {fo : Nat → Int64} {H : Heap} {locs : List Loc} {ls : Array Slot} (hi : i + 6 ≤ L) (hk : k < 512) (hj : J k c0 s0 u v) (hP : va_P (dC, dI) vwCl (wL cI cJ cP h ad ad0 ad1 hm adm ao u v fo) H) (hD : va_D (fun q : Nat => s.heap.size ≤ q) (wL cI cJ cP h ad ad0 ad1 hm adm ao u v fo)) (hS : va_S (fun q : Nat => s.heap.size ≤ q) s.heap H locs) (hl : lv_has ls 7 [(0, .ref b), (1, .ref h), (2, .ref hm), (3, .ref ao), (4, .int (nI i))]) (kk : ∀ (c1 s1 : Nat) (u' : cS) (v' : mS) (fo : Nat → Int64) (H : Heap) (locs : List Loc) (ls : Array Slot), J (k + 1) c1 s1 u' v' → va_P (dC, dI) vwCl (wL cI cJ cP h ad ad0 ad1 hm adm ao u' v' fo) H → va_D (fun q : Nat => s.heap.size ≤ q) (wL cI cJ cP h ad ad0 ad1 hm adm ao u' v' fo) → va_S (fun q : Nat => s.heap.size ≤ q) s.heap H locs → lv_has ls 7 [(0, .ref b), (1, .ref h), (2, .ref hm), (3, .ref ao), (4, .int (nI i))] → W p l e room_1 s m #[Value.ref b] below meth c H locs c1 s1 (lw_Z below #[Value.ref b] s) (F0 m 802 ls [])) : W p l e room_1 s m #[Value.ref b] below meth c H locs c0 s0 (lw_Z below #[Value.ref b] s) (F0 m 524 ls []) := by
  obtain ⟨hx, hb, hr, hml, hown, hts, hX, hbl, hlocks, hL, htr, hn, hK, hth, hst⟩ := X
  have hA : ∀ q : Nat, s.heap.size ≤ q → (fun q : Nat => s.heap.size ≤ q) q := fun _ h => h
  have hbA : ¬ (fun q : Nat => s.heap.size ≤ q) b := Nat.not_le.mpr hbl
  obtain ⟨hr1, hr2⟩ := hJ.room (Nat.le_of_lt hk) hj
  obtain ⟨I, R, CI, CJ, CR, CG, EI, ER, Eq, En, V⟩ := u
  obtain ⟨I4, R4⟩ := v
  obtain ⟨Q3, hq, hqr⟩ := hJ.proof (xs (nI i + 1).toNatClampNeg) (xs (nI i + 2).toNatClampNeg) hk hj
  refine lv_aload_n hx hb dL_law_524 rfl (lv_at hl 1 rfl) ?_
  refine lv_aload_n hx hb dL_law_525 rfl (lv_at hl 0 rfl) ?_
  refine lv_iload hx hb dL_law_526 (lv_at hl 4 rfl) ?_
  refine lv_iconst (v := (1 : Int32)) hx hb dL_law_528 (by decide) ?_
  refine lv_iadd hx hb dL_law_529 ?_
  refine va_sld hx hb hX hbl hbA hS (li1 hi hL) dL_law_530 ?_
  refine lv_aload_n hx hb dL_law_531 rfl (lv_at hl 0 rfl) ?_
  refine lv_iload hx hb dL_law_532 (lv_at hl 4 rfl) ?_
  refine lv_iconst (v := (2 : Int32)) hx hb dL_law_534 (by decide) ?_
  refine lv_iadd hx hb dL_law_535 ?_
  refine va_sld hx hb hX hbl hbA hS (li2 hi hL) dL_law_536 ?_
  refine x_calli (w1 := []) (w2 := wd4 cI hm adm I4 R4 ++ [(ao, .inl (cJ, 1, .inr (.inl fo)))]) (wf := fun _ : Unit => wd3 cI cJ cP h ad ad0 ad1 I R CI CJ CR CG EI ER Eq En V) (va_runV (As := [.int (xs (nI i + 1).toNatClampNeg), .int (xs (nI i + 2).toNatClampNeg)]) (rest := []) ⟨hx, hb, hml, hown, hts⟩ (tX3_proof l dC dI cI cJ cP h ad ad0 ad1 _ Q3 (xs (nI i + 1).toNatClampNeg) (xs (nI i + 2).toNatClampNeg) I R CI CJ CR CG EI ER Eq En V hq) (cwV 2 hts gL_law_X3_proof rfl rfl rfl (by decide +kernel) ⟨Nat.le_of_ble_eq_true rfl, Nat.le_of_ble_eq_true rfl⟩) (wPreVN hn hK (vP_l hP) (vD_l hD) (ci := 3) (q0 := 0) rfl rfl) rfl rfl hl.1 rfl (lv_room (Nat.le_of_ble_eq_true rfl)) dL_law_537 ⟨by show c0 + 0 ≤ 601024; omega, by show s0 + 0 ≤ 7293033; omega⟩) hP hD hS hA (fun r u H locs hp hP hD hS => ?_)
  obtain ⟨Q4, hq4, hqr4⟩ := hqr r hp
  have hP : va_P (dC, dI) vwCl (wL cI cJ cP h ad ad0 ad1 hm adm ao (I, R, CI, CJ, CR, CG, EI, ER, Eq, En, V) (I4, R4) fo) H := hP
  have hD : va_D (fun q : Nat => s.heap.size ≤ q) (wL cI cJ cP h ad ad0 ad1 hm adm ao (I, R, CI, CJ, CR, CG, EI, ER, Eq, En, V) (I4, R4) fo) := hD
  refine lv_aload_n hx hb dL_law_540 rfl (lv_at hl 2 rfl) ?_
  refine lv_aload_n hx hb dL_law_541 rfl (lv_at hl 0 rfl) ?_
  refine lv_iload hx hb dL_law_542 (lv_at hl 4 rfl) ?_
  refine lv_iconst (v := (1 : Int32)) hx hb dL_law_544 (by decide) ?_
  refine lv_iadd hx hb dL_law_545 ?_
  refine va_sld hx hb hX hbl hbA hS (li1 hi hL) dL_law_546 ?_
  refine lv_aload_n hx hb dL_law_547 rfl (lv_at hl 0 rfl) ?_
  refine lv_iload hx hb dL_law_548 (lv_at hl 4 rfl) ?_
  refine lv_iconst (v := (2 : Int32)) hx hb dL_law_550 (by decide) ?_
  refine lv_iadd hx hb dL_law_551 ?_
  refine va_sld hx hb hX hbl hbA hS (li2 hi hL) dL_law_552 ?_
  refine x_calli (w1 := wd3 cI cJ cP h ad ad0 ad1 I R CI CJ CR CG EI ER Eq En V) (w2 := [(ao, .inl (cJ, 1, .inr (.inl fo)))]) (wf := fun u : (Nat → Int32) × (Nat → Nat → Int32) => wd4 cI hm adm u.1 u.2) (va_runV (As := [.int (xs (nI i + 1).toNatClampNeg), .int (xs (nI i + 2).toNatClampNeg)]) (rest := [.int r]) ⟨hx, hb, hml, hown, hts⟩ (tX4_proof l dC dI cI hm adm _ Q4 (xs (nI i + 1).toNatClampNeg) (xs (nI i + 2).toNatClampNeg) I4 R4 hq4) (cwV 2 hts gL_law_X4_proof rfl rfl rfl (by decide +kernel) ⟨Nat.le_of_ble_eq_true rfl, Nat.le_of_ble_eq_true rfl⟩) (wPreV (hK.sub [0] rfl) (vP_l (vP_r hP)) (vD_l (vD_r hD)) (ci := 4) (q0 := 0) rfl rfl) rfl rfl hl.1 rfl (lv_room (Nat.le_of_ble_eq_true rfl)) dL_law_553 ⟨by show c0 + 0 + 0 ≤ 601024; omega, by show s0 + 0 + 0 ≤ 7293033; omega⟩) hP hD hS hA (fun r4 u4 H locs hp4 hP hD hS => ?_)
  obtain ⟨I4, R4⟩ := u4
  obtain ⟨rfl, hj⟩ := hqr4 r4 (I4, R4) hp4
  have hP : va_P (dC, dI) vwCl (wL cI cJ cP h ad ad0 ad1 hm adm ao (I, R, CI, CJ, CR, CG, EI, ER, Eq, En, V) (I4, R4) fo) H := hP
  have hD : va_D (fun q : Nat => s.heap.size ≤ q) (wL cI cJ cP h ad ad0 ad1 hm adm ao (I, R, CI, CJ, CR, CG, EI, ER, Eq, En, V) (I4, R4) fo) := hD
  refine lv_icmp_eq (tgt := 802) hx hb dL_law_556 (by decide) (fun _ => ?_) (fun hne => absurd rfl hne)
  exact kk _ _ _ _ _ _ _ _ hj hP hD hS hl
set_option maxHeartbeats 4000000 in
set_option maxRecDepth 100000 in
theorem lc_shows {p : Program} {l : Launch} {e : Env} {s : State} {m : MethodId} {below : List Frame} {meth : Method} {c : Code} {b L : Nat} {xs : Nat → Int32} {dC : Nat → ClassId} {dI : Nat → Nat → Nat} {cI cJ cP : ClassId} {sa tL tM : Nat} {J : Nat → Nat → Nat → cS → mS → Prop} (hJ : Agree J) (X : LawC p l s m meth c b L xs dC dI cI cJ cP sa tL tM) {h hm ao : Nat} {ad ad0 ad1 adm : Nat → Nat} {i k c0 s0 : Nat} {u : cS} {v : mS} {fo : Nat → Int64} {H : Heap} {locs : List Loc} {ls : Array Slot} (hi : i + 6 ≤ L) (hk : k < 512) (hj : J k c0 s0 u v) (hP : va_P (dC, dI) vwCl (wL cI cJ cP h ad ad0 ad1 hm adm ao u v fo) H) (hD : va_D (fun q : Nat => s.heap.size ≤ q) (wL cI cJ cP h ad ad0 ad1 hm adm ao u v fo)) (hS : va_S (fun q : Nat => s.heap.size ≤ q) s.heap H locs) (hl : lv_has ls 7 [(0, .ref b), (1, .ref h), (2, .ref hm), (3, .ref ao), (4, .int (nI i))]) (kk : ∀ (c1 s1 : Nat) (u' : cS) (v' : mS) (fo : Nat → Int64) (H : Heap) (locs : List Loc) (ls : Array Slot), J (k + 1) c1 s1 u' v' → va_P (dC, dI) vwCl (wL cI cJ cP h ad ad0 ad1 hm adm ao u' v' fo) H → va_D (fun q : Nat => s.heap.size ≤ q) (wL cI cJ cP h ad ad0 ad1 hm adm ao u' v' fo) → va_S (fun q : Nat => s.heap.size ≤ q) s.heap H locs → lv_has ls 7 [(0, .ref b), (1, .ref h), (2, .ref hm), (3, .ref ao), (4, .int (nI i))] → W p l e room_1 s m #[Value.ref b] below meth c H locs c1 s1 (lw_Z below #[Value.ref b] s) (F0 m 802 ls [])) : W p l e room_1 s m #[Value.ref b] below meth c H locs c0 s0 (lw_Z below #[Value.ref b] s) (F0 m 561 ls []) := by
  obtain ⟨hx, hb, hr, hml, hown, hts, hX, hbl, hlocks, hL, htr, hn, hK, hth, hst⟩ := X
  have hA : ∀ q : Nat, s.heap.size ≤ q → (fun q : Nat => s.heap.size ≤ q) q := fun _ h => h
  have hbA : ¬ (fun q : Nat => s.heap.size ≤ q) b := Nat.not_le.mpr hbl
  obtain ⟨hr1, hr2⟩ := hJ.room (Nat.le_of_lt hk) hj
  obtain ⟨I, R, CI, CJ, CR, CG, EI, ER, Eq, En, V⟩ := u
  obtain ⟨I4, R4⟩ := v
  obtain ⟨Q3, hq, hqr⟩ := hJ.shows (xs (nI i + 1).toNatClampNeg) hk hj
  refine lv_aload_n hx hb dL_law_561 rfl (lv_at hl 1 rfl) ?_
  refine lv_aload_n hx hb dL_law_562 rfl (lv_at hl 0 rfl) ?_
  refine lv_iload hx hb dL_law_563 (lv_at hl 4 rfl) ?_
  refine lv_iconst (v := (1 : Int32)) hx hb dL_law_565 (by decide) ?_
  refine lv_iadd hx hb dL_law_566 ?_
  refine va_sld hx hb hX hbl hbA hS (li1 hi hL) dL_law_567 ?_
  refine x_calli (w1 := []) (w2 := wd4 cI hm adm I4 R4 ++ [(ao, .inl (cJ, 1, .inr (.inl fo)))]) (wf := fun _ : Unit => wd3 cI cJ cP h ad ad0 ad1 I R CI CJ CR CG EI ER Eq En V) (va_runV (As := [.int (xs (nI i + 1).toNatClampNeg)]) (rest := []) ⟨hx, hb, hml, hown, hts⟩ (tX3_shows l dC dI cI cJ cP h ad ad0 ad1 _ Q3 (xs (nI i + 1).toNatClampNeg) I R CI CJ CR CG EI ER Eq En V hq) (cwV 1 hts gL_law_X3_shows rfl rfl rfl (by decide +kernel) ⟨Nat.le_of_ble_eq_true rfl, Nat.le_of_ble_eq_true rfl⟩) (wPreVN hn hK (vP_l hP) (vD_l hD) (ci := 3) (q0 := 0) rfl rfl) rfl rfl hl.1 rfl (lv_room (Nat.le_of_ble_eq_true rfl)) dL_law_568 ⟨by show c0 + 0 ≤ 601024; omega, by show s0 + 0 ≤ 7293033; omega⟩) hP hD hS hA (fun r u H locs hp hP hD hS => ?_)
  obtain ⟨Q4, hq4, hqr4⟩ := hqr r hp
  have hP : va_P (dC, dI) vwCl (wL cI cJ cP h ad ad0 ad1 hm adm ao (I, R, CI, CJ, CR, CG, EI, ER, Eq, En, V) (I4, R4) fo) H := hP
  have hD : va_D (fun q : Nat => s.heap.size ≤ q) (wL cI cJ cP h ad ad0 ad1 hm adm ao (I, R, CI, CJ, CR, CG, EI, ER, Eq, En, V) (I4, R4) fo) := hD
  refine lv_aload_n hx hb dL_law_571 rfl (lv_at hl 2 rfl) ?_
  refine lv_aload_n hx hb dL_law_572 rfl (lv_at hl 0 rfl) ?_
  refine lv_iload hx hb dL_law_573 (lv_at hl 4 rfl) ?_
  refine lv_iconst (v := (1 : Int32)) hx hb dL_law_575 (by decide) ?_
  refine lv_iadd hx hb dL_law_576 ?_
  refine va_sld hx hb hX hbl hbA hS (li1 hi hL) dL_law_577 ?_
  refine x_calli (w1 := wd3 cI cJ cP h ad ad0 ad1 I R CI CJ CR CG EI ER Eq En V) (w2 := [(ao, .inl (cJ, 1, .inr (.inl fo)))]) (wf := fun u : (Nat → Int32) × (Nat → Nat → Int32) => wd4 cI hm adm u.1 u.2) (va_runV (As := [.int (xs (nI i + 1).toNatClampNeg)]) (rest := [.int r]) ⟨hx, hb, hml, hown, hts⟩ (tX4_shows l dC dI cI hm adm _ Q4 (xs (nI i + 1).toNatClampNeg) I4 R4 hq4) (cwV 1 hts gL_law_X4_shows rfl rfl rfl (by decide +kernel) ⟨Nat.le_of_ble_eq_true rfl, Nat.le_of_ble_eq_true rfl⟩) (wPreV (hK.sub [0] rfl) (vP_l (vP_r hP)) (vD_l (vD_r hD)) (ci := 4) (q0 := 0) rfl rfl) rfl rfl hl.1 rfl (lv_room (Nat.le_of_ble_eq_true rfl)) dL_law_578 ⟨by show c0 + 0 + 0 ≤ 601024; omega, by show s0 + 0 + 0 ≤ 7293033; omega⟩) hP hD hS hA (fun r4 u4 H locs hp4 hP hD hS => ?_)
  obtain ⟨I4, R4⟩ := u4
  obtain ⟨rfl, hj⟩ := hqr4 r4 (I4, R4) hp4
  have hP : va_P (dC, dI) vwCl (wL cI cJ cP h ad ad0 ad1 hm adm ao (I, R, CI, CJ, CR, CG, EI, ER, Eq, En, V) (I4, R4) fo) H := hP
  have hD : va_D (fun q : Nat => s.heap.size ≤ q) (wL cI cJ cP h ad ad0 ad1 hm adm ao (I, R, CI, CJ, CR, CG, EI, ER, Eq, En, V) (I4, R4) fo) := hD
  refine lv_icmp_eq (tgt := 802) hx hb dL_law_581 (by decide) (fun _ => ?_) (fun hne => absurd rfl hne)
  exact kk _ _ _ _ _ _ _ _ hj hP hD hS hl
set_option maxHeartbeats 4000000 in
set_option maxRecDepth 100000 in
theorem lc_choose {p : Program} {l : Launch} {e : Env} {s : State} {m : MethodId} {below : List Frame} {meth : Method} {c : Code} {b L : Nat} {xs : Nat → Int32} {dC : Nat → ClassId} {dI : Nat → Nat → Nat} {cI cJ cP : ClassId} {sa tL tM : Nat} {J : Nat → Nat → Nat → cS → mS → Prop} (hJ : Agree J) (X : LawC p l s m meth c b L xs dC dI cI cJ cP sa tL tM) {h hm ao : Nat} {ad ad0 ad1 adm : Nat → Nat} {i k c0 s0 : Nat} {u : cS} {v : mS} {fo : Nat → Int64} {H : Heap} {locs : List Loc} {ls : Array Slot} (hi : i + 6 ≤ L) (hk : k < 512) (hj : J k c0 s0 u v) (hP : va_P (dC, dI) vwCl (wL cI cJ cP h ad ad0 ad1 hm adm ao u v fo) H) (hD : va_D (fun q : Nat => s.heap.size ≤ q) (wL cI cJ cP h ad ad0 ad1 hm adm ao u v fo)) (hS : va_S (fun q : Nat => s.heap.size ≤ q) s.heap H locs) (hl : lv_has ls 7 [(0, .ref b), (1, .ref h), (2, .ref hm), (3, .ref ao), (4, .int (nI i))]) (kk : ∀ (c1 s1 : Nat) (u' : cS) (v' : mS) (fo : Nat → Int64) (H : Heap) (locs : List Loc) (ls : Array Slot), J (k + 1) c1 s1 u' v' → va_P (dC, dI) vwCl (wL cI cJ cP h ad ad0 ad1 hm adm ao u' v' fo) H → va_D (fun q : Nat => s.heap.size ≤ q) (wL cI cJ cP h ad ad0 ad1 hm adm ao u' v' fo) → va_S (fun q : Nat => s.heap.size ≤ q) s.heap H locs → lv_has ls 7 [(0, .ref b), (1, .ref h), (2, .ref hm), (3, .ref ao), (4, .int (nI i))] → W p l e room_1 s m #[Value.ref b] below meth c H locs c1 s1 (lw_Z below #[Value.ref b] s) (F0 m 802 ls [])) : W p l e room_1 s m #[Value.ref b] below meth c H locs c0 s0 (lw_Z below #[Value.ref b] s) (F0 m 586 ls []) := by
  obtain ⟨hx, hb, hr, hml, hown, hts, hX, hbl, hlocks, hL, htr, hn, hK, hth, hst⟩ := X
  have hA : ∀ q : Nat, s.heap.size ≤ q → (fun q : Nat => s.heap.size ≤ q) q := fun _ h => h
  have hbA : ¬ (fun q : Nat => s.heap.size ≤ q) b := Nat.not_le.mpr hbl
  obtain ⟨hr1, hr2⟩ := hJ.room (Nat.le_of_lt hk) hj
  obtain ⟨I, R, CI, CJ, CR, CG, EI, ER, Eq, En, V⟩ := u
  obtain ⟨I4, R4⟩ := v
  obtain ⟨Q3, hq, hqr⟩ := hJ.choose (xs (nI i + 1).toNatClampNeg) hk hj
  refine lv_aload_n hx hb dL_law_586 rfl (lv_at hl 1 rfl) ?_
  refine lv_aload_n hx hb dL_law_587 rfl (lv_at hl 0 rfl) ?_
  refine lv_iload hx hb dL_law_588 (lv_at hl 4 rfl) ?_
  refine lv_iconst (v := (1 : Int32)) hx hb dL_law_590 (by decide) ?_
  refine lv_iadd hx hb dL_law_591 ?_
  refine va_sld hx hb hX hbl hbA hS (li1 hi hL) dL_law_592 ?_
  refine x_calli (w1 := []) (w2 := wd4 cI hm adm I4 R4 ++ [(ao, .inl (cJ, 1, .inr (.inl fo)))]) (wf := fun u : (Nat → Int32) × (Nat → Nat → Int32) × (Nat → Int32) × (Nat → Int64) × (Nat → Nat → Int32) × (Nat → Nat → Int64) × (Nat → Int32) × (Nat → Nat → Int32) × (Nat) × (Nat) × (vS) => wd3 cI cJ cP h ad ad0 ad1 u.1 u.2.1 u.2.2.1 u.2.2.2.1 u.2.2.2.2.1 u.2.2.2.2.2.1 u.2.2.2.2.2.2.1 u.2.2.2.2.2.2.2.1 u.2.2.2.2.2.2.2.2.1 u.2.2.2.2.2.2.2.2.2.1 u.2.2.2.2.2.2.2.2.2.2) (va_runV (As := [.int (xs (nI i + 1).toNatClampNeg)]) (rest := []) ⟨hx, hb, hml, hown, hts⟩ (tX3_choose l dC dI cI cJ cP h ad ad0 ad1 _ Q3 (xs (nI i + 1).toNatClampNeg) I R CI CJ CR CG EI ER Eq En V hq) (cwV 1 hts gL_law_X3_choose rfl rfl rfl (by decide +kernel) ⟨Nat.le_of_ble_eq_true rfl, Nat.le_of_ble_eq_true rfl⟩) (wPreVN hn hK (vP_l hP) (vD_l hD) (ci := 3) (q0 := 0) rfl rfl) rfl rfl hl.1 rfl (lv_room (Nat.le_of_ble_eq_true rfl)) dL_law_593 ⟨by show c0 + 0 ≤ 601024; omega, by show s0 + 0 ≤ 7293033; omega⟩) hP hD hS hA (fun r u H locs hp hP hD hS => ?_)
  obtain ⟨I, R, CI, CJ, CR, CG, EI, ER, Eq, En, V⟩ := u
  obtain ⟨Q4, hq4, hqr4⟩ := hqr r (I, R, CI, CJ, CR, CG, EI, ER, Eq, En, V) hp
  have hP : va_P (dC, dI) vwCl (wL cI cJ cP h ad ad0 ad1 hm adm ao (I, R, CI, CJ, CR, CG, EI, ER, Eq, En, V) (I4, R4) fo) H := hP
  have hD : va_D (fun q : Nat => s.heap.size ≤ q) (wL cI cJ cP h ad ad0 ad1 hm adm ao (I, R, CI, CJ, CR, CG, EI, ER, Eq, En, V) (I4, R4) fo) := hD
  refine lv_aload_n hx hb dL_law_596 rfl (lv_at hl 2 rfl) ?_
  refine lv_aload_n hx hb dL_law_597 rfl (lv_at hl 0 rfl) ?_
  refine lv_iload hx hb dL_law_598 (lv_at hl 4 rfl) ?_
  refine lv_iconst (v := (1 : Int32)) hx hb dL_law_600 (by decide) ?_
  refine lv_iadd hx hb dL_law_601 ?_
  refine va_sld hx hb hX hbl hbA hS (li1 hi hL) dL_law_602 ?_
  refine x_calli (w1 := wd3 cI cJ cP h ad ad0 ad1 I R CI CJ CR CG EI ER Eq En V) (w2 := [(ao, .inl (cJ, 1, .inr (.inl fo)))]) (wf := fun u : (Nat → Int32) × (Nat → Nat → Int32) => wd4 cI hm adm u.1 u.2) (va_runV (As := [.int (xs (nI i + 1).toNatClampNeg)]) (rest := [.int r]) ⟨hx, hb, hml, hown, hts⟩ (tX4_choose l dC dI cI hm adm _ Q4 (xs (nI i + 1).toNatClampNeg) I4 R4 hq4) (cwV 1 hts gL_law_X4_choose rfl rfl rfl (by decide +kernel) ⟨Nat.le_of_ble_eq_true rfl, Nat.le_of_ble_eq_true rfl⟩) (wPreV (hK.sub [0] rfl) (vP_l (vP_r hP)) (vD_l (vD_r hD)) (ci := 4) (q0 := 0) rfl rfl) rfl rfl hl.1 rfl (lv_room (Nat.le_of_ble_eq_true rfl)) dL_law_603 ⟨by show c0 + 0 + 0 ≤ 601024; omega, by show s0 + 0 + 0 ≤ 7293033; omega⟩) hP hD hS hA (fun r4 u4 H locs hp4 hP hD hS => ?_)
  obtain ⟨I4, R4⟩ := u4
  obtain ⟨rfl, hj⟩ := hqr4 r4 (I4, R4) hp4
  have hP : va_P (dC, dI) vwCl (wL cI cJ cP h ad ad0 ad1 hm adm ao (I, R, CI, CJ, CR, CG, EI, ER, Eq, En, V) (I4, R4) fo) H := hP
  have hD : va_D (fun q : Nat => s.heap.size ≤ q) (wL cI cJ cP h ad ad0 ad1 hm adm ao (I, R, CI, CJ, CR, CG, EI, ER, Eq, En, V) (I4, R4) fo) := hD
  refine lv_icmp_eq (tgt := 802) hx hb dL_law_606 (by decide) (fun _ => ?_) (fun hne => absurd rfl hne)
  exact kk _ _ _ _ _ _ _ _ hj hP hD hS hl
set_option maxHeartbeats 4000000 in
set_option maxRecDepth 100000 in
theorem lc_wrong {p : Program} {l : Launch} {e : Env} {s : State} {m : MethodId} {below : List Frame} {meth : Method} {c : Code} {b L : Nat} {xs : Nat → Int32} {dC : Nat → ClassId} {dI : Nat → Nat → Nat} {cI cJ cP : ClassId} {sa tL tM : Nat} {J : Nat → Nat → Nat → cS → mS → Prop} (hJ : Agree J) (X : LawC p l s m meth c b L xs dC dI cI cJ cP sa tL tM) {h hm ao : Nat} {ad ad0 ad1 adm : Nat → Nat} {i k c0 s0 : Nat} {u : cS} {v : mS} {fo : Nat → Int64} {H : Heap} {locs : List Loc} {ls : Array Slot} (hi : i + 6 ≤ L) (hk : k < 512) (hj : J k c0 s0 u v) (hP : va_P (dC, dI) vwCl (wL cI cJ cP h ad ad0 ad1 hm adm ao u v fo) H) (hD : va_D (fun q : Nat => s.heap.size ≤ q) (wL cI cJ cP h ad ad0 ad1 hm adm ao u v fo)) (hS : va_S (fun q : Nat => s.heap.size ≤ q) s.heap H locs) (hl : lv_has ls 7 [(0, .ref b), (1, .ref h), (2, .ref hm), (3, .ref ao), (4, .int (nI i))]) (kk : ∀ (c1 s1 : Nat) (u' : cS) (v' : mS) (fo : Nat → Int64) (H : Heap) (locs : List Loc) (ls : Array Slot), J (k + 1) c1 s1 u' v' → va_P (dC, dI) vwCl (wL cI cJ cP h ad ad0 ad1 hm adm ao u' v' fo) H → va_D (fun q : Nat => s.heap.size ≤ q) (wL cI cJ cP h ad ad0 ad1 hm adm ao u' v' fo) → va_S (fun q : Nat => s.heap.size ≤ q) s.heap H locs → lv_has ls 7 [(0, .ref b), (1, .ref h), (2, .ref hm), (3, .ref ao), (4, .int (nI i))] → W p l e room_1 s m #[Value.ref b] below meth c H locs c1 s1 (lw_Z below #[Value.ref b] s) (F0 m 802 ls [])) : W p l e room_1 s m #[Value.ref b] below meth c H locs c0 s0 (lw_Z below #[Value.ref b] s) (F0 m 611 ls []) := by
  obtain ⟨hx, hb, hr, hml, hown, hts, hX, hbl, hlocks, hL, htr, hn, hK, hth, hst⟩ := X
  have hA : ∀ q : Nat, s.heap.size ≤ q → (fun q : Nat => s.heap.size ≤ q) q := fun _ h => h
  have hbA : ¬ (fun q : Nat => s.heap.size ≤ q) b := Nat.not_le.mpr hbl
  obtain ⟨hr1, hr2⟩ := hJ.room (Nat.le_of_lt hk) hj
  obtain ⟨I, R, CI, CJ, CR, CG, EI, ER, Eq, En, V⟩ := u
  obtain ⟨I4, R4⟩ := v
  obtain ⟨Q3, hq, hqr⟩ := hJ.wrong hk hj
  refine lv_aload_n hx hb dL_law_611 rfl (lv_at hl 1 rfl) ?_
  refine x_calli (w1 := []) (w2 := wd4 cI hm adm I4 R4 ++ [(ao, .inl (cJ, 1, .inr (.inl fo)))]) (wf := fun _ : Unit => wd3 cI cJ cP h ad ad0 ad1 I R CI CJ CR CG EI ER Eq En V) (va_runV (As := []) (rest := []) ⟨hx, hb, hml, hown, hts⟩ (tX3_wrong l dC dI cI cJ cP h ad ad0 ad1 _ Q3 I R CI CJ CR CG EI ER Eq En V hq) (cwV 0 hts gL_law_X3_wrong rfl rfl rfl (by decide +kernel) ⟨Nat.le_of_ble_eq_true rfl, Nat.le_of_ble_eq_true rfl⟩) (wPreVN hn hK (vP_l hP) (vD_l hD) (ci := 3) (q0 := 0) rfl rfl) rfl rfl hl.1 rfl (lv_room (Nat.le_of_ble_eq_true rfl)) dL_law_612 ⟨by show c0 + 0 ≤ 601024; omega, by show s0 + 0 ≤ 7293033; omega⟩) hP hD hS hA (fun r u H locs hp hP hD hS => ?_)
  obtain ⟨Q4, hq4, hqr4⟩ := hqr r hp
  have hP : va_P (dC, dI) vwCl (wL cI cJ cP h ad ad0 ad1 hm adm ao (I, R, CI, CJ, CR, CG, EI, ER, Eq, En, V) (I4, R4) fo) H := hP
  have hD : va_D (fun q : Nat => s.heap.size ≤ q) (wL cI cJ cP h ad ad0 ad1 hm adm ao (I, R, CI, CJ, CR, CG, EI, ER, Eq, En, V) (I4, R4) fo) := hD
  refine lv_aload_n hx hb dL_law_615 rfl (lv_at hl 2 rfl) ?_
  refine x_calli (w1 := wd3 cI cJ cP h ad ad0 ad1 I R CI CJ CR CG EI ER Eq En V) (w2 := [(ao, .inl (cJ, 1, .inr (.inl fo)))]) (wf := fun u : (Nat → Int32) × (Nat → Nat → Int32) => wd4 cI hm adm u.1 u.2) (va_runV (As := []) (rest := [.int r]) ⟨hx, hb, hml, hown, hts⟩ (tX4_wrong l dC dI cI hm adm _ Q4 I4 R4 hq4) (cwV 0 hts gL_law_X4_wrong rfl rfl rfl (by decide +kernel) ⟨Nat.le_of_ble_eq_true rfl, Nat.le_of_ble_eq_true rfl⟩) (wPreV (hK.sub [0] rfl) (vP_l (vP_r hP)) (vD_l (vD_r hD)) (ci := 4) (q0 := 0) rfl rfl) rfl rfl hl.1 rfl (lv_room (Nat.le_of_ble_eq_true rfl)) dL_law_616 ⟨by show c0 + 0 + 0 ≤ 601024; omega, by show s0 + 0 + 0 ≤ 7293033; omega⟩) hP hD hS hA (fun r4 u4 H locs hp4 hP hD hS => ?_)
  obtain ⟨I4, R4⟩ := u4
  obtain ⟨rfl, hj⟩ := hqr4 r4 (I4, R4) hp4
  have hP : va_P (dC, dI) vwCl (wL cI cJ cP h ad ad0 ad1 hm adm ao (I, R, CI, CJ, CR, CG, EI, ER, Eq, En, V) (I4, R4) fo) H := hP
  have hD : va_D (fun q : Nat => s.heap.size ≤ q) (wL cI cJ cP h ad ad0 ad1 hm adm ao (I, R, CI, CJ, CR, CG, EI, ER, Eq, En, V) (I4, R4) fo) := hD
  refine lv_icmp_eq (tgt := 802) hx hb dL_law_619 (by decide) (fun _ => ?_) (fun hne => absurd rfl hne)
  exact kk _ _ _ _ _ _ _ _ hj hP hD hS hl
set_option maxHeartbeats 4000000 in
set_option maxRecDepth 100000 in
theorem lc_best {p : Program} {l : Launch} {e : Env} {s : State} {m : MethodId} {below : List Frame} {meth : Method} {c : Code} {b L : Nat} {xs : Nat → Int32} {dC : Nat → ClassId} {dI : Nat → Nat → Nat} {cI cJ cP : ClassId} {sa tL tM : Nat} {J : Nat → Nat → Nat → cS → mS → Prop} (hJ : Agree J) (X : LawC p l s m meth c b L xs dC dI cI cJ cP sa tL tM) {h hm ao : Nat} {ad ad0 ad1 adm : Nat → Nat} {i k c0 s0 : Nat} {u : cS} {v : mS} {fo : Nat → Int64} {H : Heap} {locs : List Loc} {ls : Array Slot} (hi : i + 6 ≤ L) (hk : k < 512) (hj : J k c0 s0 u v) (hP : va_P (dC, dI) vwCl (wL cI cJ cP h ad ad0 ad1 hm adm ao u v fo) H) (hD : va_D (fun q : Nat => s.heap.size ≤ q) (wL cI cJ cP h ad ad0 ad1 hm adm ao u v fo)) (hS : va_S (fun q : Nat => s.heap.size ≤ q) s.heap H locs) (hl : lv_has ls 7 [(0, .ref b), (1, .ref h), (2, .ref hm), (3, .ref ao), (4, .int (nI i))]) (kk : ∀ (c1 s1 : Nat) (u' : cS) (v' : mS) (fo : Nat → Int64) (H : Heap) (locs : List Loc) (ls : Array Slot), J (k + 1) c1 s1 u' v' → va_P (dC, dI) vwCl (wL cI cJ cP h ad ad0 ad1 hm adm ao u' v' fo) H → va_D (fun q : Nat => s.heap.size ≤ q) (wL cI cJ cP h ad ad0 ad1 hm adm ao u' v' fo) → va_S (fun q : Nat => s.heap.size ≤ q) s.heap H locs → lv_has ls 7 [(0, .ref b), (1, .ref h), (2, .ref hm), (3, .ref ao), (4, .int (nI i))] → W p l e room_1 s m #[Value.ref b] below meth c H locs c1 s1 (lw_Z below #[Value.ref b] s) (F0 m 802 ls [])) : W p l e room_1 s m #[Value.ref b] below meth c H locs c0 s0 (lw_Z below #[Value.ref b] s) (F0 m 624 ls []) := by
  obtain ⟨hx, hb, hr, hml, hown, hts, hX, hbl, hlocks, hL, htr, hn, hK, hth, hst⟩ := X
  have hA : ∀ q : Nat, s.heap.size ≤ q → (fun q : Nat => s.heap.size ≤ q) q := fun _ h => h
  have hbA : ¬ (fun q : Nat => s.heap.size ≤ q) b := Nat.not_le.mpr hbl
  obtain ⟨hr1, hr2⟩ := hJ.room (Nat.le_of_lt hk) hj
  obtain ⟨I, R, CI, CJ, CR, CG, EI, ER, Eq, En, V⟩ := u
  obtain ⟨I4, R4⟩ := v
  obtain ⟨Q3, hq, hqr⟩ := hJ.best hk hj
  refine lv_aload_n hx hb dL_law_624 rfl (lv_at hl 1 rfl) ?_
  refine x_calli (w1 := []) (w2 := wd4 cI hm adm I4 R4 ++ [(ao, .inl (cJ, 1, .inr (.inl fo)))]) (wf := fun u : (Nat → Int32) × (Nat → Nat → Int32) × (Nat → Int32) × (Nat → Int64) × (Nat → Nat → Int32) × (Nat → Nat → Int64) × (Nat → Int32) × (Nat → Nat → Int32) × (Nat) × (Nat) × (vS) => wd3 cI cJ cP h ad ad0 ad1 u.1 u.2.1 u.2.2.1 u.2.2.2.1 u.2.2.2.2.1 u.2.2.2.2.2.1 u.2.2.2.2.2.2.1 u.2.2.2.2.2.2.2.1 u.2.2.2.2.2.2.2.2.1 u.2.2.2.2.2.2.2.2.2.1 u.2.2.2.2.2.2.2.2.2.2) (va_runV (As := []) (rest := []) ⟨hx, hb, hml, hown, hts⟩ (tX3_best l dC dI cI cJ cP h ad ad0 ad1 _ Q3 I R CI CJ CR CG EI ER Eq En V hq) (cwV 0 hts gL_law_X3_best rfl rfl rfl (by decide +kernel) ⟨Nat.le_of_ble_eq_true rfl, Nat.le_of_ble_eq_true rfl⟩) (wPreVN hn hK (vP_l hP) (vD_l hD) (ci := 3) (q0 := 0) rfl rfl) rfl rfl hl.1 rfl (lv_room (Nat.le_of_ble_eq_true rfl)) dL_law_625 ⟨by show c0 + 0 ≤ 601024; omega, by show s0 + 0 ≤ 7293033; omega⟩) hP hD hS hA (fun r u H locs hp hP hD hS => ?_)
  obtain ⟨I, R, CI, CJ, CR, CG, EI, ER, Eq, En, V⟩ := u
  obtain ⟨Q4, hq4, hqr4⟩ := hqr r (I, R, CI, CJ, CR, CG, EI, ER, Eq, En, V) hp
  have hP : va_P (dC, dI) vwCl (wL cI cJ cP h ad ad0 ad1 hm adm ao (I, R, CI, CJ, CR, CG, EI, ER, Eq, En, V) (I4, R4) fo) H := hP
  have hD : va_D (fun q : Nat => s.heap.size ≤ q) (wL cI cJ cP h ad ad0 ad1 hm adm ao (I, R, CI, CJ, CR, CG, EI, ER, Eq, En, V) (I4, R4) fo) := hD
  refine lv_aload_n hx hb dL_law_628 rfl (lv_at hl 2 rfl) ?_
  refine x_calli (w1 := wd3 cI cJ cP h ad ad0 ad1 I R CI CJ CR CG EI ER Eq En V) (w2 := [(ao, .inl (cJ, 1, .inr (.inl fo)))]) (wf := fun u : (Nat → Int32) × (Nat → Nat → Int32) => wd4 cI hm adm u.1 u.2) (va_runV (As := []) (rest := [.int r]) ⟨hx, hb, hml, hown, hts⟩ (tX4_best l dC dI cI hm adm _ Q4 I4 R4 hq4) (cwV 0 hts gL_law_X4_best rfl rfl rfl (by decide +kernel) ⟨Nat.le_of_ble_eq_true rfl, Nat.le_of_ble_eq_true rfl⟩) (wPreV (hK.sub [0] rfl) (vP_l (vP_r hP)) (vD_l (vD_r hD)) (ci := 4) (q0 := 0) rfl rfl) rfl rfl hl.1 rfl (lv_room (Nat.le_of_ble_eq_true rfl)) dL_law_629 ⟨by show c0 + 0 + 0 ≤ 601024; omega, by show s0 + 0 + 0 ≤ 7293033; omega⟩) hP hD hS hA (fun r4 u4 H locs hp4 hP hD hS => ?_)
  obtain ⟨I4, R4⟩ := u4
  obtain ⟨rfl, hj⟩ := hqr4 r4 (I4, R4) hp4
  have hP : va_P (dC, dI) vwCl (wL cI cJ cP h ad ad0 ad1 hm adm ao (I, R, CI, CJ, CR, CG, EI, ER, Eq, En, V) (I4, R4) fo) H := hP
  have hD : va_D (fun q : Nat => s.heap.size ≤ q) (wL cI cJ cP h ad ad0 ad1 hm adm ao (I, R, CI, CJ, CR, CG, EI, ER, Eq, En, V) (I4, R4) fo) := hD
  refine lv_icmp_eq (tgt := 802) hx hb dL_law_632 (by decide) (fun _ => ?_) (fun hne => absurd rfl hne)
  exact kk _ _ _ _ _ _ _ _ hj hP hD hS hl
set_option maxHeartbeats 4000000 in
set_option maxRecDepth 100000 in
theorem lc_mend {p : Program} {l : Launch} {e : Env} {s : State} {m : MethodId} {below : List Frame} {meth : Method} {c : Code} {b L : Nat} {xs : Nat → Int32} {dC : Nat → ClassId} {dI : Nat → Nat → Nat} {cI cJ cP : ClassId} {sa tL tM : Nat} {J : Nat → Nat → Nat → cS → mS → Prop} (hJ : Agree J) (X : LawC p l s m meth c b L xs dC dI cI cJ cP sa tL tM) {h hm ao : Nat} {ad ad0 ad1 adm : Nat → Nat} {i k c0 s0 : Nat} {u : cS} {v : mS} {fo : Nat → Int64} {H : Heap} {locs : List Loc} {ls : Array Slot} (hi : i + 6 ≤ L) (hk : k < 512) (hj : J k c0 s0 u v) (hP : va_P (dC, dI) vwCl (wL cI cJ cP h ad ad0 ad1 hm adm ao u v fo) H) (hD : va_D (fun q : Nat => s.heap.size ≤ q) (wL cI cJ cP h ad ad0 ad1 hm adm ao u v fo)) (hS : va_S (fun q : Nat => s.heap.size ≤ q) s.heap H locs) (hl : lv_has ls 7 [(0, .ref b), (1, .ref h), (2, .ref hm), (3, .ref ao), (4, .int (nI i))]) (kk : ∀ (c1 s1 : Nat) (u' : cS) (v' : mS) (fo : Nat → Int64) (H : Heap) (locs : List Loc) (ls : Array Slot), J (k + 1) c1 s1 u' v' → va_P (dC, dI) vwCl (wL cI cJ cP h ad ad0 ad1 hm adm ao u' v' fo) H → va_D (fun q : Nat => s.heap.size ≤ q) (wL cI cJ cP h ad ad0 ad1 hm adm ao u' v' fo) → va_S (fun q : Nat => s.heap.size ≤ q) s.heap H locs → lv_has ls 7 [(0, .ref b), (1, .ref h), (2, .ref hm), (3, .ref ao), (4, .int (nI i))] → W p l e room_1 s m #[Value.ref b] below meth c H locs c1 s1 (lw_Z below #[Value.ref b] s) (F0 m 802 ls [])) : W p l e room_1 s m #[Value.ref b] below meth c H locs c0 s0 (lw_Z below #[Value.ref b] s) (F0 m 637 ls []) := by
  obtain ⟨hx, hb, hr, hml, hown, hts, hX, hbl, hlocks, hL, htr, hn, hK, hth, hst⟩ := X
  have hA : ∀ q : Nat, s.heap.size ≤ q → (fun q : Nat => s.heap.size ≤ q) q := fun _ h => h
  have hbA : ¬ (fun q : Nat => s.heap.size ≤ q) b := Nat.not_le.mpr hbl
  obtain ⟨hr1, hr2⟩ := hJ.room (Nat.le_of_lt hk) hj
  obtain ⟨I, R, CI, CJ, CR, CG, EI, ER, Eq, En, V⟩ := u
  obtain ⟨I4, R4⟩ := v
  obtain ⟨Q3, hq, hqr⟩ := hJ.mend hk hj
  refine lv_aload_n hx hb dL_law_637 rfl (lv_at hl 1 rfl) ?_
  refine x_calli (w1 := []) (w2 := wd4 cI hm adm I4 R4 ++ [(ao, .inl (cJ, 1, .inr (.inl fo)))]) (wf := fun u : (Nat → Int32) × (Nat → Nat → Int32) × (Nat → Int32) × (Nat → Int64) × (Nat → Nat → Int32) × (Nat → Nat → Int64) × (Nat → Int32) × (Nat → Nat → Int32) × (Nat) × (Nat) × (vS) => wd3 cI cJ cP h ad ad0 ad1 u.1 u.2.1 u.2.2.1 u.2.2.2.1 u.2.2.2.2.1 u.2.2.2.2.2.1 u.2.2.2.2.2.2.1 u.2.2.2.2.2.2.2.1 u.2.2.2.2.2.2.2.2.1 u.2.2.2.2.2.2.2.2.2.1 u.2.2.2.2.2.2.2.2.2.2) (va_runV (As := []) (rest := []) ⟨hx, hb, hml, hown, hts⟩ (tX3_mend l dC dI cI cJ cP h ad ad0 ad1 _ Q3 I R CI CJ CR CG EI ER Eq En V hq) (cwV 0 hts gL_law_X3_mend rfl rfl rfl (by decide +kernel) ⟨Nat.le_of_ble_eq_true rfl, Nat.le_of_ble_eq_true rfl⟩) (wPreVN hn hK (vP_l hP) (vD_l hD) (ci := 3) (q0 := 0) rfl rfl) rfl rfl hl.1 rfl (lv_room (Nat.le_of_ble_eq_true rfl)) dL_law_638 ⟨by show c0 + 0 ≤ 601024; omega, by show s0 + 0 ≤ 7293033; omega⟩) hP hD hS hA (fun r u H locs hp hP hD hS => ?_)
  obtain ⟨I, R, CI, CJ, CR, CG, EI, ER, Eq, En, V⟩ := u
  obtain ⟨Q4, hq4, hqr4⟩ := hqr r (I, R, CI, CJ, CR, CG, EI, ER, Eq, En, V) hp
  have hP : va_P (dC, dI) vwCl (wL cI cJ cP h ad ad0 ad1 hm adm ao (I, R, CI, CJ, CR, CG, EI, ER, Eq, En, V) (I4, R4) fo) H := hP
  have hD : va_D (fun q : Nat => s.heap.size ≤ q) (wL cI cJ cP h ad ad0 ad1 hm adm ao (I, R, CI, CJ, CR, CG, EI, ER, Eq, En, V) (I4, R4) fo) := hD
  refine lv_aload_n hx hb dL_law_641 rfl (lv_at hl 2 rfl) ?_
  refine x_calli (w1 := wd3 cI cJ cP h ad ad0 ad1 I R CI CJ CR CG EI ER Eq En V) (w2 := [(ao, .inl (cJ, 1, .inr (.inl fo)))]) (wf := fun u : (Nat → Int32) × (Nat → Nat → Int32) => wd4 cI hm adm u.1 u.2) (va_runV (As := []) (rest := [.int r]) ⟨hx, hb, hml, hown, hts⟩ (tX4_mend l dC dI cI hm adm _ Q4 I4 R4 hq4) (cwV 0 hts gL_law_X4_mend rfl rfl rfl (by decide +kernel) ⟨Nat.le_of_ble_eq_true rfl, Nat.le_of_ble_eq_true rfl⟩) (wPreV (hK.sub [0] rfl) (vP_l (vP_r hP)) (vD_l (vD_r hD)) (ci := 4) (q0 := 0) rfl rfl) rfl rfl hl.1 rfl (lv_room (Nat.le_of_ble_eq_true rfl)) dL_law_642 ⟨by show c0 + 0 + 0 ≤ 601024; omega, by show s0 + 0 + 0 ≤ 7293033; omega⟩) hP hD hS hA (fun r4 u4 H locs hp4 hP hD hS => ?_)
  obtain ⟨I4, R4⟩ := u4
  obtain ⟨rfl, hj⟩ := hqr4 r4 (I4, R4) hp4
  have hP : va_P (dC, dI) vwCl (wL cI cJ cP h ad ad0 ad1 hm adm ao (I, R, CI, CJ, CR, CG, EI, ER, Eq, En, V) (I4, R4) fo) H := hP
  have hD : va_D (fun q : Nat => s.heap.size ≤ q) (wL cI cJ cP h ad ad0 ad1 hm adm ao (I, R, CI, CJ, CR, CG, EI, ER, Eq, En, V) (I4, R4) fo) := hD
  refine lv_icmp_eq (tgt := 802) hx hb dL_law_645 (by decide) (fun _ => ?_) (fun hne => absurd rfl hne)
  exact kk _ _ _ _ _ _ _ _ hj hP hD hS hl
set_option maxHeartbeats 4000000 in
set_option maxRecDepth 100000 in
theorem lc_choices {p : Program} {l : Launch} {e : Env} {s : State} {m : MethodId} {below : List Frame} {meth : Method} {c : Code} {b L : Nat} {xs : Nat → Int32} {dC : Nat → ClassId} {dI : Nat → Nat → Nat} {cI cJ cP : ClassId} {sa tL tM : Nat} {J : Nat → Nat → Nat → cS → mS → Prop} (hJ : Agree J) (X : LawC p l s m meth c b L xs dC dI cI cJ cP sa tL tM) {h hm ao : Nat} {ad ad0 ad1 adm : Nat → Nat} {i k c0 s0 : Nat} {u : cS} {v : mS} {fo : Nat → Int64} {H : Heap} {locs : List Loc} {ls : Array Slot} (hi : i + 6 ≤ L) (hk : k < 512) (hj : J k c0 s0 u v) (hP : va_P (dC, dI) vwCl (wL cI cJ cP h ad ad0 ad1 hm adm ao u v fo) H) (hD : va_D (fun q : Nat => s.heap.size ≤ q) (wL cI cJ cP h ad ad0 ad1 hm adm ao u v fo)) (hS : va_S (fun q : Nat => s.heap.size ≤ q) s.heap H locs) (hl : lv_has ls 7 [(0, .ref b), (1, .ref h), (2, .ref hm), (3, .ref ao), (4, .int (nI i))]) (kk : ∀ (c1 s1 : Nat) (u' : cS) (v' : mS) (fo : Nat → Int64) (H : Heap) (locs : List Loc) (ls : Array Slot), J (k + 1) c1 s1 u' v' → va_P (dC, dI) vwCl (wL cI cJ cP h ad ad0 ad1 hm adm ao u' v' fo) H → va_D (fun q : Nat => s.heap.size ≤ q) (wL cI cJ cP h ad ad0 ad1 hm adm ao u' v' fo) → va_S (fun q : Nat => s.heap.size ≤ q) s.heap H locs → lv_has ls 7 [(0, .ref b), (1, .ref h), (2, .ref hm), (3, .ref ao), (4, .int (nI i))] → W p l e room_1 s m #[Value.ref b] below meth c H locs c1 s1 (lw_Z below #[Value.ref b] s) (F0 m 802 ls [])) : W p l e room_1 s m #[Value.ref b] below meth c H locs c0 s0 (lw_Z below #[Value.ref b] s) (F0 m 650 ls []) := by
  obtain ⟨hx, hb, hr, hml, hown, hts, hX, hbl, hlocks, hL, htr, hn, hK, hth, hst⟩ := X
  have hA : ∀ q : Nat, s.heap.size ≤ q → (fun q : Nat => s.heap.size ≤ q) q := fun _ h => h
  have hbA : ¬ (fun q : Nat => s.heap.size ≤ q) b := Nat.not_le.mpr hbl
  obtain ⟨hr1, hr2⟩ := hJ.room (Nat.le_of_lt hk) hj
  obtain ⟨I, R, CI, CJ, CR, CG, EI, ER, Eq, En, V⟩ := u
  obtain ⟨I4, R4⟩ := v
  obtain ⟨Q3, hq, hqr⟩ := hJ.choices hk hj
  refine lv_aload_n hx hb dL_law_650 rfl (lv_at hl 1 rfl) ?_
  refine x_calli (w1 := []) (w2 := wd4 cI hm adm I4 R4 ++ [(ao, .inl (cJ, 1, .inr (.inl fo)))]) (wf := fun u : (Nat → Int32) × (Nat → Nat → Int32) × (Nat → Int32) × (Nat → Int64) × (Nat → Nat → Int32) × (Nat → Nat → Int64) × (Nat → Int32) × (Nat → Nat → Int32) × (Nat) × (Nat) × (vS) => wd3 cI cJ cP h ad ad0 ad1 u.1 u.2.1 u.2.2.1 u.2.2.2.1 u.2.2.2.2.1 u.2.2.2.2.2.1 u.2.2.2.2.2.2.1 u.2.2.2.2.2.2.2.1 u.2.2.2.2.2.2.2.2.1 u.2.2.2.2.2.2.2.2.2.1 u.2.2.2.2.2.2.2.2.2.2) (va_runV (As := []) (rest := []) ⟨hx, hb, hml, hown, hts⟩ (tX3_choices l dC dI cI cJ cP h ad ad0 ad1 _ Q3 I R CI CJ CR CG EI ER Eq En V hq) (cwV 0 hts gL_law_X3_choices rfl rfl rfl (by decide +kernel) ⟨Nat.le_of_ble_eq_true rfl, Nat.le_of_ble_eq_true rfl⟩) (wPreVN hn hK (vP_l hP) (vD_l hD) (ci := 3) (q0 := 0) rfl rfl) rfl rfl hl.1 rfl (lv_room (Nat.le_of_ble_eq_true rfl)) dL_law_651 ⟨by show c0 + 0 ≤ 601024; omega, by show s0 + 0 ≤ 7293033; omega⟩) hP hD hS hA (fun r u H locs hp hP hD hS => ?_)
  obtain ⟨I, R, CI, CJ, CR, CG, EI, ER, Eq, En, V⟩ := u
  obtain ⟨Q4, hq4, hqr4⟩ := hqr r (I, R, CI, CJ, CR, CG, EI, ER, Eq, En, V) hp
  have hP : va_P (dC, dI) vwCl (wL cI cJ cP h ad ad0 ad1 hm adm ao (I, R, CI, CJ, CR, CG, EI, ER, Eq, En, V) (I4, R4) fo) H := hP
  have hD : va_D (fun q : Nat => s.heap.size ≤ q) (wL cI cJ cP h ad ad0 ad1 hm adm ao (I, R, CI, CJ, CR, CG, EI, ER, Eq, En, V) (I4, R4) fo) := hD
  refine lv_aload_n hx hb dL_law_654 rfl (lv_at hl 2 rfl) ?_
  refine x_calli (w1 := wd3 cI cJ cP h ad ad0 ad1 I R CI CJ CR CG EI ER Eq En V) (w2 := [(ao, .inl (cJ, 1, .inr (.inl fo)))]) (wf := fun u : (Nat → Int32) × (Nat → Nat → Int32) => wd4 cI hm adm u.1 u.2) (va_runV (As := []) (rest := [.int r]) ⟨hx, hb, hml, hown, hts⟩ (tX4_choices l dC dI cI hm adm _ Q4 I4 R4 hq4) (cwV 0 hts gL_law_X4_choices rfl rfl rfl (by decide +kernel) ⟨Nat.le_of_ble_eq_true rfl, Nat.le_of_ble_eq_true rfl⟩) (wPreV (hK.sub [0] rfl) (vP_l (vP_r hP)) (vD_l (vD_r hD)) (ci := 4) (q0 := 0) rfl rfl) rfl rfl hl.1 rfl (lv_room (Nat.le_of_ble_eq_true rfl)) dL_law_655 ⟨by show c0 + 0 + 0 ≤ 601024; omega, by show s0 + 0 + 0 ≤ 7293033; omega⟩) hP hD hS hA (fun r4 u4 H locs hp4 hP hD hS => ?_)
  obtain ⟨I4, R4⟩ := u4
  obtain ⟨rfl, hj⟩ := hqr4 r4 (I4, R4) hp4
  have hP : va_P (dC, dI) vwCl (wL cI cJ cP h ad ad0 ad1 hm adm ao (I, R, CI, CJ, CR, CG, EI, ER, Eq, En, V) (I4, R4) fo) H := hP
  have hD : va_D (fun q : Nat => s.heap.size ≤ q) (wL cI cJ cP h ad ad0 ad1 hm adm ao (I, R, CI, CJ, CR, CG, EI, ER, Eq, En, V) (I4, R4) fo) := hD
  refine lv_icmp_eq (tgt := 802) hx hb dL_law_658 (by decide) (fun _ => ?_) (fun hne => absurd rfl hne)
  exact kk _ _ _ _ _ _ _ _ hj hP hD hS hl
set_option maxHeartbeats 4000000 in
set_option maxRecDepth 100000 in
theorem lc_lacking {p : Program} {l : Launch} {e : Env} {s : State} {m : MethodId} {below : List Frame} {meth : Method} {c : Code} {b L : Nat} {xs : Nat → Int32} {dC : Nat → ClassId} {dI : Nat → Nat → Nat} {cI cJ cP : ClassId} {sa tL tM : Nat} {J : Nat → Nat → Nat → cS → mS → Prop} (hJ : Agree J) (X : LawC p l s m meth c b L xs dC dI cI cJ cP sa tL tM) {h hm ao : Nat} {ad ad0 ad1 adm : Nat → Nat} {i k c0 s0 : Nat} {u : cS} {v : mS} {fo : Nat → Int64} {H : Heap} {locs : List Loc} {ls : Array Slot} (hi : i + 6 ≤ L) (hk : k < 512) (hj : J k c0 s0 u v) (hP : va_P (dC, dI) vwCl (wL cI cJ cP h ad ad0 ad1 hm adm ao u v fo) H) (hD : va_D (fun q : Nat => s.heap.size ≤ q) (wL cI cJ cP h ad ad0 ad1 hm adm ao u v fo)) (hS : va_S (fun q : Nat => s.heap.size ≤ q) s.heap H locs) (hl : lv_has ls 7 [(0, .ref b), (1, .ref h), (2, .ref hm), (3, .ref ao), (4, .int (nI i))]) (kk : ∀ (c1 s1 : Nat) (u' : cS) (v' : mS) (fo : Nat → Int64) (H : Heap) (locs : List Loc) (ls : Array Slot), J (k + 1) c1 s1 u' v' → va_P (dC, dI) vwCl (wL cI cJ cP h ad ad0 ad1 hm adm ao u' v' fo) H → va_D (fun q : Nat => s.heap.size ≤ q) (wL cI cJ cP h ad ad0 ad1 hm adm ao u' v' fo) → va_S (fun q : Nat => s.heap.size ≤ q) s.heap H locs → lv_has ls 7 [(0, .ref b), (1, .ref h), (2, .ref hm), (3, .ref ao), (4, .int (nI i))] → W p l e room_1 s m #[Value.ref b] below meth c H locs c1 s1 (lw_Z below #[Value.ref b] s) (F0 m 802 ls [])) : W p l e room_1 s m #[Value.ref b] below meth c H locs c0 s0 (lw_Z below #[Value.ref b] s) (F0 m 663 ls []) := by
  obtain ⟨hx, hb, hr, hml, hown, hts, hX, hbl, hlocks, hL, htr, hn, hK, hth, hst⟩ := X
  have hA : ∀ q : Nat, s.heap.size ≤ q → (fun q : Nat => s.heap.size ≤ q) q := fun _ h => h
  have hbA : ¬ (fun q : Nat => s.heap.size ≤ q) b := Nat.not_le.mpr hbl
  obtain ⟨hr1, hr2⟩ := hJ.room (Nat.le_of_lt hk) hj
  obtain ⟨I, R, CI, CJ, CR, CG, EI, ER, Eq, En, V⟩ := u
  obtain ⟨I4, R4⟩ := v
  obtain ⟨Q3, hq, hqr⟩ := hJ.lacking hk hj
  refine lv_aload_n hx hb dL_law_663 rfl (lv_at hl 1 rfl) ?_
  refine x_calli (w1 := []) (w2 := wd4 cI hm adm I4 R4 ++ [(ao, .inl (cJ, 1, .inr (.inl fo)))]) (wf := fun _ : Unit => wd3 cI cJ cP h ad ad0 ad1 I R CI CJ CR CG EI ER Eq En V) (va_runV (As := []) (rest := []) ⟨hx, hb, hml, hown, hts⟩ (tX3_lacking l dC dI cI cJ cP h ad ad0 ad1 _ Q3 I R CI CJ CR CG EI ER Eq En V hq) (cwV 0 hts gL_law_X3_lacking rfl rfl rfl (by decide +kernel) ⟨Nat.le_of_ble_eq_true rfl, Nat.le_of_ble_eq_true rfl⟩) (wPreVN hn hK (vP_l hP) (vD_l hD) (ci := 3) (q0 := 0) rfl rfl) rfl rfl hl.1 rfl (lv_room (Nat.le_of_ble_eq_true rfl)) dL_law_664 ⟨by show c0 + 0 ≤ 601024; omega, by show s0 + 0 ≤ 7293033; omega⟩) hP hD hS hA (fun r u H locs hp hP hD hS => ?_)
  obtain ⟨Q4, hq4, hqr4⟩ := hqr r hp
  have hP : va_P (dC, dI) vwCl (wL cI cJ cP h ad ad0 ad1 hm adm ao (I, R, CI, CJ, CR, CG, EI, ER, Eq, En, V) (I4, R4) fo) H := hP
  have hD : va_D (fun q : Nat => s.heap.size ≤ q) (wL cI cJ cP h ad ad0 ad1 hm adm ao (I, R, CI, CJ, CR, CG, EI, ER, Eq, En, V) (I4, R4) fo) := hD
  refine lv_aload_n hx hb dL_law_667 rfl (lv_at hl 2 rfl) ?_
  refine x_calli (w1 := wd3 cI cJ cP h ad ad0 ad1 I R CI CJ CR CG EI ER Eq En V) (w2 := [(ao, .inl (cJ, 1, .inr (.inl fo)))]) (wf := fun u : (Nat → Int32) × (Nat → Nat → Int32) => wd4 cI hm adm u.1 u.2) (va_runV (As := []) (rest := [.int r]) ⟨hx, hb, hml, hown, hts⟩ (tX4_lacking l dC dI cI hm adm _ Q4 I4 R4 hq4) (cwV 0 hts gL_law_X4_lacking rfl rfl rfl (by decide +kernel) ⟨Nat.le_of_ble_eq_true rfl, Nat.le_of_ble_eq_true rfl⟩) (wPreV (hK.sub [0] rfl) (vP_l (vP_r hP)) (vD_l (vD_r hD)) (ci := 4) (q0 := 0) rfl rfl) rfl rfl hl.1 rfl (lv_room (Nat.le_of_ble_eq_true rfl)) dL_law_668 ⟨by show c0 + 0 + 0 ≤ 601024; omega, by show s0 + 0 + 0 ≤ 7293033; omega⟩) hP hD hS hA (fun r4 u4 H locs hp4 hP hD hS => ?_)
  obtain ⟨I4, R4⟩ := u4
  obtain ⟨rfl, hj⟩ := hqr4 r4 (I4, R4) hp4
  have hP : va_P (dC, dI) vwCl (wL cI cJ cP h ad ad0 ad1 hm adm ao (I, R, CI, CJ, CR, CG, EI, ER, Eq, En, V) (I4, R4) fo) H := hP
  have hD : va_D (fun q : Nat => s.heap.size ≤ q) (wL cI cJ cP h ad ad0 ad1 hm adm ao (I, R, CI, CJ, CR, CG, EI, ER, Eq, En, V) (I4, R4) fo) := hD
  refine lv_icmp_eq (tgt := 802) hx hb dL_law_671 (by decide) (fun _ => ?_) (fun hne => absurd rfl hne)
  exact kk _ _ _ _ _ _ _ _ hj hP hD hS hl
set_option maxHeartbeats 4000000 in
set_option maxRecDepth 100000 in
theorem lc_fewest {p : Program} {l : Launch} {e : Env} {s : State} {m : MethodId} {below : List Frame} {meth : Method} {c : Code} {b L : Nat} {xs : Nat → Int32} {dC : Nat → ClassId} {dI : Nat → Nat → Nat} {cI cJ cP : ClassId} {sa tL tM : Nat} {J : Nat → Nat → Nat → cS → mS → Prop} (hJ : Agree J) (X : LawC p l s m meth c b L xs dC dI cI cJ cP sa tL tM) {h hm ao : Nat} {ad ad0 ad1 adm : Nat → Nat} {i k c0 s0 : Nat} {u : cS} {v : mS} {fo : Nat → Int64} {H : Heap} {locs : List Loc} {ls : Array Slot} (hi : i + 6 ≤ L) (hk : k < 512) (hj : J k c0 s0 u v) (hP : va_P (dC, dI) vwCl (wL cI cJ cP h ad ad0 ad1 hm adm ao u v fo) H) (hD : va_D (fun q : Nat => s.heap.size ≤ q) (wL cI cJ cP h ad ad0 ad1 hm adm ao u v fo)) (hS : va_S (fun q : Nat => s.heap.size ≤ q) s.heap H locs) (hl : lv_has ls 7 [(0, .ref b), (1, .ref h), (2, .ref hm), (3, .ref ao), (4, .int (nI i))]) (kk : ∀ (c1 s1 : Nat) (u' : cS) (v' : mS) (fo : Nat → Int64) (H : Heap) (locs : List Loc) (ls : Array Slot), J (k + 1) c1 s1 u' v' → va_P (dC, dI) vwCl (wL cI cJ cP h ad ad0 ad1 hm adm ao u' v' fo) H → va_D (fun q : Nat => s.heap.size ≤ q) (wL cI cJ cP h ad ad0 ad1 hm adm ao u' v' fo) → va_S (fun q : Nat => s.heap.size ≤ q) s.heap H locs → lv_has ls 7 [(0, .ref b), (1, .ref h), (2, .ref hm), (3, .ref ao), (4, .int (nI i))] → W p l e room_1 s m #[Value.ref b] below meth c H locs c1 s1 (lw_Z below #[Value.ref b] s) (F0 m 802 ls [])) : W p l e room_1 s m #[Value.ref b] below meth c H locs c0 s0 (lw_Z below #[Value.ref b] s) (F0 m 676 ls []) := by
  obtain ⟨hx, hb, hr, hml, hown, hts, hX, hbl, hlocks, hL, htr, hn, hK, hth, hst⟩ := X
  have hA : ∀ q : Nat, s.heap.size ≤ q → (fun q : Nat => s.heap.size ≤ q) q := fun _ h => h
  have hbA : ¬ (fun q : Nat => s.heap.size ≤ q) b := Nat.not_le.mpr hbl
  obtain ⟨hr1, hr2⟩ := hJ.room (Nat.le_of_lt hk) hj
  obtain ⟨I, R, CI, CJ, CR, CG, EI, ER, Eq, En, V⟩ := u
  obtain ⟨I4, R4⟩ := v
  obtain ⟨mc, ms, Q3, hcm, hsm, hq, hqr⟩ := hJ.fewest hk hj
  refine lv_aload_n hx hb dL_law_676 rfl (lv_at hl 1 rfl) ?_
  refine x_calli (w1 := []) (w2 := wd4 cI hm adm I4 R4 ++ [(ao, .inl (cJ, 1, .inr (.inl fo)))]) (wf := fun u : (Nat → Int32) × (Nat → Nat → Int32) × (Nat → Int32) × (Nat → Int64) × (Nat → Nat → Int32) × (Nat → Nat → Int64) × (Nat → Int32) × (Nat → Nat → Int32) × (Nat) × (Nat) × (vS) => wd3 cI cJ cP h ad ad0 ad1 u.1 u.2.1 u.2.2.1 u.2.2.2.1 u.2.2.2.2.1 u.2.2.2.2.2.1 u.2.2.2.2.2.2.1 u.2.2.2.2.2.2.2.1 u.2.2.2.2.2.2.2.2.1 u.2.2.2.2.2.2.2.2.2.1 u.2.2.2.2.2.2.2.2.2.2) (va_runV (As := []) (rest := []) ⟨hx, hb, hml, hown, hts⟩ (tX3_fewest l dC dI cI cJ cP h ad ad0 ad1 _ mc ms Q3 I R CI CJ CR CG EI ER Eq En V hq) (cwV 0 hts gL_law_X3_fewest rfl rfl rfl (by decide +kernel) ⟨Nat.le_of_ble_eq_true rfl, Nat.le_of_ble_eq_true rfl⟩) (wPreVN hn hK (vP_l hP) (vD_l hD) (ci := 3) (q0 := 0) rfl rfl) rfl rfl hl.1 rfl (lv_room (Nat.le_of_ble_eq_true rfl)) dL_law_677 ⟨hcm, hsm⟩) hP hD hS hA (fun r u H locs hp hP hD hS => ?_)
  obtain ⟨I, R, CI, CJ, CR, CG, EI, ER, Eq, En, V⟩ := u
  obtain ⟨Q4, hq4, hqr4⟩ := hqr r (I, R, CI, CJ, CR, CG, EI, ER, Eq, En, V) hp
  have hP : va_P (dC, dI) vwCl (wL cI cJ cP h ad ad0 ad1 hm adm ao (I, R, CI, CJ, CR, CG, EI, ER, Eq, En, V) (I4, R4) fo) H := hP
  have hD : va_D (fun q : Nat => s.heap.size ≤ q) (wL cI cJ cP h ad ad0 ad1 hm adm ao (I, R, CI, CJ, CR, CG, EI, ER, Eq, En, V) (I4, R4) fo) := hD
  refine lv_aload_n hx hb dL_law_680 rfl (lv_at hl 2 rfl) ?_
  refine x_calli (w1 := wd3 cI cJ cP h ad ad0 ad1 I R CI CJ CR CG EI ER Eq En V) (w2 := [(ao, .inl (cJ, 1, .inr (.inl fo)))]) (wf := fun u : (Nat → Int32) × (Nat → Nat → Int32) => wd4 cI hm adm u.1 u.2) (va_runV (As := []) (rest := [.int r]) ⟨hx, hb, hml, hown, hts⟩ (tX4_fewest l dC dI cI hm adm _ Q4 I4 R4 hq4) (cwV 0 hts gL_law_X4_fewest rfl rfl rfl (by decide +kernel) ⟨Nat.le_of_ble_eq_true rfl, Nat.le_of_ble_eq_true rfl⟩) (wPreV (hK.sub [0] rfl) (vP_l (vP_r hP)) (vD_l (vD_r hD)) (ci := 4) (q0 := 0) rfl rfl) rfl rfl hl.1 rfl (lv_room (Nat.le_of_ble_eq_true rfl)) dL_law_681 ⟨by show c0 + mc + 0 ≤ 601024; omega, by show s0 + ms + 0 ≤ 7293033; omega⟩) hP hD hS hA (fun r4 u4 H locs hp4 hP hD hS => ?_)
  obtain ⟨I4, R4⟩ := u4
  obtain ⟨rfl, hj⟩ := hqr4 r4 (I4, R4) hp4
  have hP : va_P (dC, dI) vwCl (wL cI cJ cP h ad ad0 ad1 hm adm ao (I, R, CI, CJ, CR, CG, EI, ER, Eq, En, V) (I4, R4) fo) H := hP
  have hD : va_D (fun q : Nat => s.heap.size ≤ q) (wL cI cJ cP h ad ad0 ad1 hm adm ao (I, R, CI, CJ, CR, CG, EI, ER, Eq, En, V) (I4, R4) fo) := hD
  refine lv_icmp_eq (tgt := 802) hx hb dL_law_684 (by decide) (fun _ => ?_) (fun hne => absurd rfl hne)
  exact kk _ _ _ _ _ _ _ _ hj hP hD hS hl
set_option maxHeartbeats 4000000 in
set_option maxRecDepth 100000 in
theorem lc_lay {p : Program} {l : Launch} {e : Env} {s : State} {m : MethodId} {below : List Frame} {meth : Method} {c : Code} {b L : Nat} {xs : Nat → Int32} {dC : Nat → ClassId} {dI : Nat → Nat → Nat} {cI cJ cP : ClassId} {sa tL tM : Nat} {J : Nat → Nat → Nat → cS → mS → Prop} (hJ : Agree J) (X : LawC p l s m meth c b L xs dC dI cI cJ cP sa tL tM) {h hm ao : Nat} {ad ad0 ad1 adm : Nat → Nat} {i k c0 s0 : Nat} {u : cS} {v : mS} {fo : Nat → Int64} {H : Heap} {locs : List Loc} {ls : Array Slot} (hi : i + 6 ≤ L) (hk : k < 512) (hj : J k c0 s0 u v) (hP : va_P (dC, dI) vwCl (wL cI cJ cP h ad ad0 ad1 hm adm ao u v fo) H) (hD : va_D (fun q : Nat => s.heap.size ≤ q) (wL cI cJ cP h ad ad0 ad1 hm adm ao u v fo)) (hS : va_S (fun q : Nat => s.heap.size ≤ q) s.heap H locs) (hl : lv_has ls 7 [(0, .ref b), (1, .ref h), (2, .ref hm), (3, .ref ao), (4, .int (nI i))]) (kk : ∀ (c1 s1 : Nat) (u' : cS) (v' : mS) (fo : Nat → Int64) (H : Heap) (locs : List Loc) (ls : Array Slot), J (k + 1) c1 s1 u' v' → va_P (dC, dI) vwCl (wL cI cJ cP h ad ad0 ad1 hm adm ao u' v' fo) H → va_D (fun q : Nat => s.heap.size ≤ q) (wL cI cJ cP h ad ad0 ad1 hm adm ao u' v' fo) → va_S (fun q : Nat => s.heap.size ≤ q) s.heap H locs → lv_has ls 7 [(0, .ref b), (1, .ref h), (2, .ref hm), (3, .ref ao), (4, .int (nI i))] → W p l e room_1 s m #[Value.ref b] below meth c H locs c1 s1 (lw_Z below #[Value.ref b] s) (F0 m 802 ls [])) : W p l e room_1 s m #[Value.ref b] below meth c H locs c0 s0 (lw_Z below #[Value.ref b] s) (F0 m 689 ls []) := by
  obtain ⟨hx, hb, hr, hml, hown, hts, hX, hbl, hlocks, hL, htr, hn, hK, hth, hst⟩ := X
  have hA : ∀ q : Nat, s.heap.size ≤ q → (fun q : Nat => s.heap.size ≤ q) q := fun _ h => h
  have hbA : ¬ (fun q : Nat => s.heap.size ≤ q) b := Nat.not_le.mpr hbl
  obtain ⟨hr1, hr2⟩ := hJ.room (Nat.le_of_lt hk) hj
  obtain ⟨I, R, CI, CJ, CR, CG, EI, ER, Eq, En, V⟩ := u
  obtain ⟨I4, R4⟩ := v
  obtain ⟨mc, ms, Q3, hcm, hsm, hq, hqr⟩ := hJ.lay hk hj
  refine lv_aload_n hx hb dL_law_689 rfl (lv_at hl 1 rfl) ?_
  refine x_calli (w1 := []) (w2 := wd4 cI hm adm I4 R4 ++ [(ao, .inl (cJ, 1, .inr (.inl fo)))]) (wf := fun u : (Nat → Int32) × (Nat → Nat → Int32) × (Nat → Int32) × (Nat → Int64) × (Nat → Nat → Int32) × (Nat → Nat → Int64) × (Nat → Int32) × (Nat → Nat → Int32) × (Nat) × (Nat) × (vS) => wd3 cI cJ cP h ad ad0 ad1 u.1 u.2.1 u.2.2.1 u.2.2.2.1 u.2.2.2.2.1 u.2.2.2.2.2.1 u.2.2.2.2.2.2.1 u.2.2.2.2.2.2.2.1 u.2.2.2.2.2.2.2.2.1 u.2.2.2.2.2.2.2.2.2.1 u.2.2.2.2.2.2.2.2.2.2) (va_runV (As := []) (rest := []) ⟨hx, hb, hml, hown, hts⟩ (tX3_lay l dC dI cI cJ cP h ad ad0 ad1 _ mc ms Q3 I R CI CJ CR CG EI ER Eq En V hq) (cwV 0 hts gL_law_X3_lay rfl rfl rfl (by decide +kernel) ⟨Nat.le_of_ble_eq_true rfl, Nat.le_of_ble_eq_true rfl⟩) (wPreVN hn hK (vP_l hP) (vD_l hD) (ci := 3) (q0 := 0) rfl rfl) rfl rfl hl.1 rfl (lv_room (Nat.le_of_ble_eq_true rfl)) dL_law_690 ⟨hcm, hsm⟩) hP hD hS hA (fun r u H locs hp hP hD hS => ?_)
  obtain ⟨I, R, CI, CJ, CR, CG, EI, ER, Eq, En, V⟩ := u
  obtain ⟨Q4, hq4, hqr4⟩ := hqr r (I, R, CI, CJ, CR, CG, EI, ER, Eq, En, V) hp
  have hP : va_P (dC, dI) vwCl (wL cI cJ cP h ad ad0 ad1 hm adm ao (I, R, CI, CJ, CR, CG, EI, ER, Eq, En, V) (I4, R4) fo) H := hP
  have hD : va_D (fun q : Nat => s.heap.size ≤ q) (wL cI cJ cP h ad ad0 ad1 hm adm ao (I, R, CI, CJ, CR, CG, EI, ER, Eq, En, V) (I4, R4) fo) := hD
  refine lv_aload_n hx hb dL_law_693 rfl (lv_at hl 2 rfl) ?_
  refine x_calli (w1 := wd3 cI cJ cP h ad ad0 ad1 I R CI CJ CR CG EI ER Eq En V) (w2 := [(ao, .inl (cJ, 1, .inr (.inl fo)))]) (wf := fun u : (Nat → Int32) × (Nat → Nat → Int32) => wd4 cI hm adm u.1 u.2) (va_runV (As := []) (rest := [.int r]) ⟨hx, hb, hml, hown, hts⟩ (tX4_lay l dC dI cI hm adm _ Q4 I4 R4 hq4) (cwV 0 hts gL_law_X4_lay rfl rfl rfl (by decide +kernel) ⟨Nat.le_of_ble_eq_true rfl, Nat.le_of_ble_eq_true rfl⟩) (wPreV (hK.sub [0] rfl) (vP_l (vP_r hP)) (vD_l (vD_r hD)) (ci := 4) (q0 := 0) rfl rfl) rfl rfl hl.1 rfl (lv_room (Nat.le_of_ble_eq_true rfl)) dL_law_694 ⟨by show c0 + mc + 0 ≤ 601024; omega, by show s0 + ms + 0 ≤ 7293033; omega⟩) hP hD hS hA (fun r4 u4 H locs hp4 hP hD hS => ?_)
  obtain ⟨I4, R4⟩ := u4
  obtain ⟨rfl, hj⟩ := hqr4 r4 (I4, R4) hp4
  have hP : va_P (dC, dI) vwCl (wL cI cJ cP h ad ad0 ad1 hm adm ao (I, R, CI, CJ, CR, CG, EI, ER, Eq, En, V) (I4, R4) fo) H := hP
  have hD : va_D (fun q : Nat => s.heap.size ≤ q) (wL cI cJ cP h ad ad0 ad1 hm adm ao (I, R, CI, CJ, CR, CG, EI, ER, Eq, En, V) (I4, R4) fo) := hD
  refine lv_icmp_eq (tgt := 802) hx hb dL_law_697 (by decide) (fun _ => ?_) (fun hne => absurd rfl hne)
  exact kk _ _ _ _ _ _ _ _ hj hP hD hS hl
set_option maxHeartbeats 4000000 in
set_option maxRecDepth 100000 in
theorem lc_page {p : Program} {l : Launch} {e : Env} {s : State} {m : MethodId} {below : List Frame} {meth : Method} {c : Code} {b L : Nat} {xs : Nat → Int32} {dC : Nat → ClassId} {dI : Nat → Nat → Nat} {cI cJ cP : ClassId} {sa tL tM : Nat} {J : Nat → Nat → Nat → cS → mS → Prop} (hJ : Agree J) (X : LawC p l s m meth c b L xs dC dI cI cJ cP sa tL tM) {h hm ao : Nat} {ad ad0 ad1 adm : Nat → Nat} {i k c0 s0 : Nat} {u : cS} {v : mS} {fo : Nat → Int64} {H : Heap} {locs : List Loc} {ls : Array Slot} (hi : i + 6 ≤ L) (hk : k < 512) (hj : J k c0 s0 u v) (hP : va_P (dC, dI) vwCl (wL cI cJ cP h ad ad0 ad1 hm adm ao u v fo) H) (hD : va_D (fun q : Nat => s.heap.size ≤ q) (wL cI cJ cP h ad ad0 ad1 hm adm ao u v fo)) (hS : va_S (fun q : Nat => s.heap.size ≤ q) s.heap H locs) (hl : lv_has ls 7 [(0, .ref b), (1, .ref h), (2, .ref hm), (3, .ref ao), (4, .int (nI i))]) (kk : ∀ (c1 s1 : Nat) (u' : cS) (v' : mS) (fo : Nat → Int64) (H : Heap) (locs : List Loc) (ls : Array Slot), J (k + 1) c1 s1 u' v' → va_P (dC, dI) vwCl (wL cI cJ cP h ad ad0 ad1 hm adm ao u' v' fo) H → va_D (fun q : Nat => s.heap.size ≤ q) (wL cI cJ cP h ad ad0 ad1 hm adm ao u' v' fo) → va_S (fun q : Nat => s.heap.size ≤ q) s.heap H locs → lv_has ls 7 [(0, .ref b), (1, .ref h), (2, .ref hm), (3, .ref ao), (4, .int (nI i))] → W p l e room_1 s m #[Value.ref b] below meth c H locs c1 s1 (lw_Z below #[Value.ref b] s) (F0 m 802 ls [])) : W p l e room_1 s m #[Value.ref b] below meth c H locs c0 s0 (lw_Z below #[Value.ref b] s) (F0 m 702 ls []) := by
  obtain ⟨hx, hb, hr, hml, hown, hts, hX, hbl, hlocks, hL, htr, hn, hK, hth, hst⟩ := X
  have hA : ∀ q : Nat, s.heap.size ≤ q → (fun q : Nat => s.heap.size ≤ q) q := fun _ h => h
  have hbA : ¬ (fun q : Nat => s.heap.size ≤ q) b := Nat.not_le.mpr hbl
  obtain ⟨hr1, hr2⟩ := hJ.room (Nat.le_of_lt hk) hj
  obtain ⟨I, R, CI, CJ, CR, CG, EI, ER, Eq, En, V⟩ := u
  obtain ⟨I4, R4⟩ := v
  obtain ⟨Q3, hq, hqr⟩ := hJ.page (xs (nI i + 1).toNatClampNeg) hk hj
  refine lv_aload_n hx hb dL_law_702 rfl (lv_at hl 1 rfl) ?_
  refine lv_aload_n hx hb dL_law_703 rfl (lv_at hl 0 rfl) ?_
  refine lv_iload hx hb dL_law_704 (lv_at hl 4 rfl) ?_
  refine lv_iconst (v := (1 : Int32)) hx hb dL_law_706 (by decide) ?_
  refine lv_iadd hx hb dL_law_707 ?_
  refine va_sld hx hb hX hbl hbA hS (li1 hi hL) dL_law_708 ?_
  refine x_calli (w1 := []) (w2 := wd4 cI hm adm I4 R4 ++ [(ao, .inl (cJ, 1, .inr (.inl fo)))]) (wf := fun _ : Unit => wd3 cI cJ cP h ad ad0 ad1 I R CI CJ CR CG EI ER Eq En V) (va_runV (As := [.int (xs (nI i + 1).toNatClampNeg)]) (rest := []) ⟨hx, hb, hml, hown, hts⟩ (tX3_page l dC dI cI cJ cP h ad ad0 ad1 _ Q3 (xs (nI i + 1).toNatClampNeg) I R CI CJ CR CG EI ER Eq En V hq) (cwV 1 hts gL_law_X3_page rfl rfl rfl (by decide +kernel) ⟨Nat.le_of_ble_eq_true rfl, Nat.le_of_ble_eq_true rfl⟩) (wPreVN hn hK (vP_l hP) (vD_l hD) (ci := 3) (q0 := 0) rfl rfl) rfl rfl hl.1 rfl (lv_room (Nat.le_of_ble_eq_true rfl)) dL_law_709 ⟨by show c0 + 0 ≤ 601024; omega, by show s0 + 0 ≤ 7293033; omega⟩) hP hD hS hA (fun r u H locs hp hP hD hS => ?_)
  obtain ⟨Q4, hq4, hqr4⟩ := hqr r hp
  have hP : va_P (dC, dI) vwCl (wL cI cJ cP h ad ad0 ad1 hm adm ao (I, R, CI, CJ, CR, CG, EI, ER, Eq, En, V) (I4, R4) fo) H := hP
  have hD : va_D (fun q : Nat => s.heap.size ≤ q) (wL cI cJ cP h ad ad0 ad1 hm adm ao (I, R, CI, CJ, CR, CG, EI, ER, Eq, En, V) (I4, R4) fo) := hD
  refine lv_aload_n hx hb dL_law_712 rfl (lv_at hl 2 rfl) ?_
  refine lv_aload_n hx hb dL_law_713 rfl (lv_at hl 0 rfl) ?_
  refine lv_iload hx hb dL_law_714 (lv_at hl 4 rfl) ?_
  refine lv_iconst (v := (1 : Int32)) hx hb dL_law_716 (by decide) ?_
  refine lv_iadd hx hb dL_law_717 ?_
  refine va_sld hx hb hX hbl hbA hS (li1 hi hL) dL_law_718 ?_
  refine x_calli (w1 := wd3 cI cJ cP h ad ad0 ad1 I R CI CJ CR CG EI ER Eq En V) (w2 := [(ao, .inl (cJ, 1, .inr (.inl fo)))]) (wf := fun u : (Nat → Int32) × (Nat → Nat → Int32) => wd4 cI hm adm u.1 u.2) (va_runV (As := [.int (xs (nI i + 1).toNatClampNeg)]) (rest := [.int r]) ⟨hx, hb, hml, hown, hts⟩ (tX4_page l dC dI cI hm adm _ Q4 (xs (nI i + 1).toNatClampNeg) I4 R4 hq4) (cwV 1 hts gL_law_X4_page rfl rfl rfl (by decide +kernel) ⟨Nat.le_of_ble_eq_true rfl, Nat.le_of_ble_eq_true rfl⟩) (wPreV (hK.sub [0] rfl) (vP_l (vP_r hP)) (vD_l (vD_r hD)) (ci := 4) (q0 := 0) rfl rfl) rfl rfl hl.1 rfl (lv_room (Nat.le_of_ble_eq_true rfl)) dL_law_719 ⟨by show c0 + 0 + 0 ≤ 601024; omega, by show s0 + 0 + 0 ≤ 7293033; omega⟩) hP hD hS hA (fun r4 u4 H locs hp4 hP hD hS => ?_)
  obtain ⟨I4, R4⟩ := u4
  obtain ⟨rfl, hj⟩ := hqr4 r4 (I4, R4) hp4
  have hP : va_P (dC, dI) vwCl (wL cI cJ cP h ad ad0 ad1 hm adm ao (I, R, CI, CJ, CR, CG, EI, ER, Eq, En, V) (I4, R4) fo) H := hP
  have hD : va_D (fun q : Nat => s.heap.size ≤ q) (wL cI cJ cP h ad ad0 ad1 hm adm ao (I, R, CI, CJ, CR, CG, EI, ER, Eq, En, V) (I4, R4) fo) := hD
  refine lv_icmp_eq (tgt := 802) hx hb dL_law_722 (by decide) (fun _ => ?_) (fun hne => absurd rfl hne)
  exact kk _ _ _ _ _ _ _ _ hj hP hD hS hl
set_option maxHeartbeats 4000000 in
set_option maxRecDepth 100000 in
theorem lc_left {p : Program} {l : Launch} {e : Env} {s : State} {m : MethodId} {below : List Frame} {meth : Method} {c : Code} {b L : Nat} {xs : Nat → Int32} {dC : Nat → ClassId} {dI : Nat → Nat → Nat} {cI cJ cP : ClassId} {sa tL tM : Nat} {J : Nat → Nat → Nat → cS → mS → Prop} (hJ : Agree J) (X : LawC p l s m meth c b L xs dC dI cI cJ cP sa tL tM) {h hm ao : Nat} {ad ad0 ad1 adm : Nat → Nat} {i k c0 s0 : Nat} {u : cS} {v : mS} {fo : Nat → Int64} {H : Heap} {locs : List Loc} {ls : Array Slot} (hi : i + 6 ≤ L) (hk : k < 512) (hj : J k c0 s0 u v) (hP : va_P (dC, dI) vwCl (wL cI cJ cP h ad ad0 ad1 hm adm ao u v fo) H) (hD : va_D (fun q : Nat => s.heap.size ≤ q) (wL cI cJ cP h ad ad0 ad1 hm adm ao u v fo)) (hS : va_S (fun q : Nat => s.heap.size ≤ q) s.heap H locs) (hl : lv_has ls 7 [(0, .ref b), (1, .ref h), (2, .ref hm), (3, .ref ao), (4, .int (nI i))]) (kk : ∀ (c1 s1 : Nat) (u' : cS) (v' : mS) (fo : Nat → Int64) (H : Heap) (locs : List Loc) (ls : Array Slot), J (k + 1) c1 s1 u' v' → va_P (dC, dI) vwCl (wL cI cJ cP h ad ad0 ad1 hm adm ao u' v' fo) H → va_D (fun q : Nat => s.heap.size ≤ q) (wL cI cJ cP h ad ad0 ad1 hm adm ao u' v' fo) → va_S (fun q : Nat => s.heap.size ≤ q) s.heap H locs → lv_has ls 7 [(0, .ref b), (1, .ref h), (2, .ref hm), (3, .ref ao), (4, .int (nI i))] → W p l e room_1 s m #[Value.ref b] below meth c H locs c1 s1 (lw_Z below #[Value.ref b] s) (F0 m 802 ls [])) : W p l e room_1 s m #[Value.ref b] below meth c H locs c0 s0 (lw_Z below #[Value.ref b] s) (F0 m 727 ls []) := by
  obtain ⟨hx, hb, hr, hml, hown, hts, hX, hbl, hlocks, hL, htr, hn, hK, hth, hst⟩ := X
  have hA : ∀ q : Nat, s.heap.size ≤ q → (fun q : Nat => s.heap.size ≤ q) q := fun _ h => h
  have hbA : ¬ (fun q : Nat => s.heap.size ≤ q) b := Nat.not_le.mpr hbl
  obtain ⟨hr1, hr2⟩ := hJ.room (Nat.le_of_lt hk) hj
  obtain ⟨I, R, CI, CJ, CR, CG, EI, ER, Eq, En, V⟩ := u
  obtain ⟨I4, R4⟩ := v
  obtain ⟨Q3, hq, hqr⟩ := hJ.left (xs (nI i + 1).toNatClampNeg) hk hj
  refine lv_aload_n hx hb dL_law_727 rfl (lv_at hl 1 rfl) ?_
  refine lv_aload_n hx hb dL_law_728 rfl (lv_at hl 0 rfl) ?_
  refine lv_iload hx hb dL_law_729 (lv_at hl 4 rfl) ?_
  refine lv_iconst (v := (1 : Int32)) hx hb dL_law_731 (by decide) ?_
  refine lv_iadd hx hb dL_law_732 ?_
  refine va_sld hx hb hX hbl hbA hS (li1 hi hL) dL_law_733 ?_
  refine x_calli (w1 := []) (w2 := wd4 cI hm adm I4 R4 ++ [(ao, .inl (cJ, 1, .inr (.inl fo)))]) (wf := fun _ : Unit => wd3 cI cJ cP h ad ad0 ad1 I R CI CJ CR CG EI ER Eq En V) (va_runV (As := [.int (xs (nI i + 1).toNatClampNeg)]) (rest := []) ⟨hx, hb, hml, hown, hts⟩ (tX3_left l dC dI cI cJ cP h ad ad0 ad1 _ Q3 (xs (nI i + 1).toNatClampNeg) I R CI CJ CR CG EI ER Eq En V hq) (cwV 1 hts gL_law_X3_left rfl rfl rfl (by decide +kernel) ⟨Nat.le_of_ble_eq_true rfl, Nat.le_of_ble_eq_true rfl⟩) (wPreVN hn hK (vP_l hP) (vD_l hD) (ci := 3) (q0 := 0) rfl rfl) rfl rfl hl.1 rfl (lv_room (Nat.le_of_ble_eq_true rfl)) dL_law_734 ⟨by show c0 + 0 ≤ 601024; omega, by show s0 + 0 ≤ 7293033; omega⟩) hP hD hS hA (fun r u H locs hp hP hD hS => ?_)
  obtain ⟨Q4, hq4, hqr4⟩ := hqr r hp
  have hP : va_P (dC, dI) vwCl (wL cI cJ cP h ad ad0 ad1 hm adm ao (I, R, CI, CJ, CR, CG, EI, ER, Eq, En, V) (I4, R4) fo) H := hP
  have hD : va_D (fun q : Nat => s.heap.size ≤ q) (wL cI cJ cP h ad ad0 ad1 hm adm ao (I, R, CI, CJ, CR, CG, EI, ER, Eq, En, V) (I4, R4) fo) := hD
  refine lv_aload_n hx hb dL_law_737 rfl (lv_at hl 2 rfl) ?_
  refine lv_aload_n hx hb dL_law_738 rfl (lv_at hl 0 rfl) ?_
  refine lv_iload hx hb dL_law_739 (lv_at hl 4 rfl) ?_
  refine lv_iconst (v := (1 : Int32)) hx hb dL_law_741 (by decide) ?_
  refine lv_iadd hx hb dL_law_742 ?_
  refine va_sld hx hb hX hbl hbA hS (li1 hi hL) dL_law_743 ?_
  refine x_calli (w1 := wd3 cI cJ cP h ad ad0 ad1 I R CI CJ CR CG EI ER Eq En V) (w2 := [(ao, .inl (cJ, 1, .inr (.inl fo)))]) (wf := fun u : (Nat → Int32) × (Nat → Nat → Int32) => wd4 cI hm adm u.1 u.2) (va_runV (As := [.int (xs (nI i + 1).toNatClampNeg)]) (rest := [.int r]) ⟨hx, hb, hml, hown, hts⟩ (tX4_left l dC dI cI hm adm _ Q4 (xs (nI i + 1).toNatClampNeg) I4 R4 hq4) (cwV 1 hts gL_law_X4_left rfl rfl rfl (by decide +kernel) ⟨Nat.le_of_ble_eq_true rfl, Nat.le_of_ble_eq_true rfl⟩) (wPreV (hK.sub [0] rfl) (vP_l (vP_r hP)) (vD_l (vD_r hD)) (ci := 4) (q0 := 0) rfl rfl) rfl rfl hl.1 rfl (lv_room (Nat.le_of_ble_eq_true rfl)) dL_law_744 ⟨by show c0 + 0 + 0 ≤ 601024; omega, by show s0 + 0 + 0 ≤ 7293033; omega⟩) hP hD hS hA (fun r4 u4 H locs hp4 hP hD hS => ?_)
  obtain ⟨I4, R4⟩ := u4
  obtain ⟨rfl, hj⟩ := hqr4 r4 (I4, R4) hp4
  have hP : va_P (dC, dI) vwCl (wL cI cJ cP h ad ad0 ad1 hm adm ao (I, R, CI, CJ, CR, CG, EI, ER, Eq, En, V) (I4, R4) fo) H := hP
  have hD : va_D (fun q : Nat => s.heap.size ≤ q) (wL cI cJ cP h ad ad0 ad1 hm adm ao (I, R, CI, CJ, CR, CG, EI, ER, Eq, En, V) (I4, R4) fo) := hD
  refine lv_icmp_eq (tgt := 802) hx hb dL_law_747 (by decide) (fun _ => ?_) (fun hne => absurd rfl hne)
  exact kk _ _ _ _ _ _ _ _ hj hP hD hS hl
set_option maxHeartbeats 4000000 in
set_option maxRecDepth 100000 in
theorem lc_late {p : Program} {l : Launch} {e : Env} {s : State} {m : MethodId} {below : List Frame} {meth : Method} {c : Code} {b L : Nat} {xs : Nat → Int32} {dC : Nat → ClassId} {dI : Nat → Nat → Nat} {cI cJ cP : ClassId} {sa tL tM : Nat} {J : Nat → Nat → Nat → cS → mS → Prop} (hJ : Agree J) (X : LawC p l s m meth c b L xs dC dI cI cJ cP sa tL tM) {h hm ao : Nat} {ad ad0 ad1 adm : Nat → Nat} {i k c0 s0 : Nat} {u : cS} {v : mS} {fo : Nat → Int64} {H : Heap} {locs : List Loc} {ls : Array Slot} (hi : i + 6 ≤ L) (hk : k < 512) (hj : J k c0 s0 u v) (hP : va_P (dC, dI) vwCl (wL cI cJ cP h ad ad0 ad1 hm adm ao u v fo) H) (hD : va_D (fun q : Nat => s.heap.size ≤ q) (wL cI cJ cP h ad ad0 ad1 hm adm ao u v fo)) (hS : va_S (fun q : Nat => s.heap.size ≤ q) s.heap H locs) (hl : lv_has ls 7 [(0, .ref b), (1, .ref h), (2, .ref hm), (3, .ref ao), (4, .int (nI i))]) (kk : ∀ (c1 s1 : Nat) (u' : cS) (v' : mS) (fo : Nat → Int64) (H : Heap) (locs : List Loc) (ls : Array Slot), J (k + 1) c1 s1 u' v' → va_P (dC, dI) vwCl (wL cI cJ cP h ad ad0 ad1 hm adm ao u' v' fo) H → va_D (fun q : Nat => s.heap.size ≤ q) (wL cI cJ cP h ad ad0 ad1 hm adm ao u' v' fo) → va_S (fun q : Nat => s.heap.size ≤ q) s.heap H locs → lv_has ls 7 [(0, .ref b), (1, .ref h), (2, .ref hm), (3, .ref ao), (4, .int (nI i))] → W p l e room_1 s m #[Value.ref b] below meth c H locs c1 s1 (lw_Z below #[Value.ref b] s) (F0 m 802 ls [])) : W p l e room_1 s m #[Value.ref b] below meth c H locs c0 s0 (lw_Z below #[Value.ref b] s) (F0 m 752 ls []) := by
  obtain ⟨hx, hb, hr, hml, hown, hts, hX, hbl, hlocks, hL, htr, hn, hK, hth, hst⟩ := X
  have hA : ∀ q : Nat, s.heap.size ≤ q → (fun q : Nat => s.heap.size ≤ q) q := fun _ h => h
  have hbA : ¬ (fun q : Nat => s.heap.size ≤ q) b := Nat.not_le.mpr hbl
  obtain ⟨hr1, hr2⟩ := hJ.room (Nat.le_of_lt hk) hj
  obtain ⟨I, R, CI, CJ, CR, CG, EI, ER, Eq, En, V⟩ := u
  obtain ⟨I4, R4⟩ := v
  obtain ⟨mc, ms, Q3, hcm, hsm, hq, hqr⟩ := hJ.late (xs (nI i + 1).toNatClampNeg) hk hj
  refine lv_aload_n hx hb dL_law_752 rfl (lv_at hl 1 rfl) ?_
  refine lv_aload_n hx hb dL_law_753 rfl (lv_at hl 0 rfl) ?_
  refine lv_iload hx hb dL_law_754 (lv_at hl 4 rfl) ?_
  refine lv_iconst (v := (1 : Int32)) hx hb dL_law_756 (by decide) ?_
  refine lv_iadd hx hb dL_law_757 ?_
  refine va_sld hx hb hX hbl hbA hS (li1 hi hL) dL_law_758 ?_
  refine x_calli (w1 := []) (w2 := wd4 cI hm adm I4 R4 ++ [(ao, .inl (cJ, 1, .inr (.inl fo)))]) (wf := fun u : (Nat → Int32) × (Nat → Nat → Int32) × (Nat → Int32) × (Nat → Int64) × (Nat → Nat → Int32) × (Nat → Nat → Int64) × (Nat → Int32) × (Nat → Nat → Int32) × (Nat) × (Nat) × (vS) => wd3 cI cJ cP h ad ad0 ad1 u.1 u.2.1 u.2.2.1 u.2.2.2.1 u.2.2.2.2.1 u.2.2.2.2.2.1 u.2.2.2.2.2.2.1 u.2.2.2.2.2.2.2.1 u.2.2.2.2.2.2.2.2.1 u.2.2.2.2.2.2.2.2.2.1 u.2.2.2.2.2.2.2.2.2.2) (va_runV (As := [.int (xs (nI i + 1).toNatClampNeg)]) (rest := []) ⟨hx, hb, hml, hown, hts⟩ (tX3_late l dC dI cI cJ cP h ad ad0 ad1 _ mc ms Q3 (xs (nI i + 1).toNatClampNeg) I R CI CJ CR CG EI ER Eq En V hq) (cwV 1 hts gL_law_X3_late rfl rfl rfl (by decide +kernel) ⟨Nat.le_of_ble_eq_true rfl, Nat.le_of_ble_eq_true rfl⟩) (wPreVN hn hK (vP_l hP) (vD_l hD) (ci := 3) (q0 := 0) rfl rfl) rfl rfl hl.1 rfl (lv_room (Nat.le_of_ble_eq_true rfl)) dL_law_759 ⟨hcm, hsm⟩) hP hD hS hA (fun r u H locs hp hP hD hS => ?_)
  obtain ⟨I, R, CI, CJ, CR, CG, EI, ER, Eq, En, V⟩ := u
  obtain ⟨Q4, hq4, hqr4⟩ := hqr r (I, R, CI, CJ, CR, CG, EI, ER, Eq, En, V) hp
  have hP : va_P (dC, dI) vwCl (wL cI cJ cP h ad ad0 ad1 hm adm ao (I, R, CI, CJ, CR, CG, EI, ER, Eq, En, V) (I4, R4) fo) H := hP
  have hD : va_D (fun q : Nat => s.heap.size ≤ q) (wL cI cJ cP h ad ad0 ad1 hm adm ao (I, R, CI, CJ, CR, CG, EI, ER, Eq, En, V) (I4, R4) fo) := hD
  refine lv_aload_n hx hb dL_law_762 rfl (lv_at hl 2 rfl) ?_
  refine lv_aload_n hx hb dL_law_763 rfl (lv_at hl 0 rfl) ?_
  refine lv_iload hx hb dL_law_764 (lv_at hl 4 rfl) ?_
  refine lv_iconst (v := (1 : Int32)) hx hb dL_law_766 (by decide) ?_
  refine lv_iadd hx hb dL_law_767 ?_
  refine va_sld hx hb hX hbl hbA hS (li1 hi hL) dL_law_768 ?_
  refine x_calli (w1 := wd3 cI cJ cP h ad ad0 ad1 I R CI CJ CR CG EI ER Eq En V) (w2 := [(ao, .inl (cJ, 1, .inr (.inl fo)))]) (wf := fun u : (Nat → Int32) × (Nat → Nat → Int32) => wd4 cI hm adm u.1 u.2) (va_runV (As := [.int (xs (nI i + 1).toNatClampNeg)]) (rest := [.int r]) ⟨hx, hb, hml, hown, hts⟩ (tX4_late l dC dI cI hm adm _ Q4 (xs (nI i + 1).toNatClampNeg) I4 R4 hq4) (cwV 1 hts gL_law_X4_late rfl rfl rfl (by decide +kernel) ⟨Nat.le_of_ble_eq_true rfl, Nat.le_of_ble_eq_true rfl⟩) (wPreV (hK.sub [0] rfl) (vP_l (vP_r hP)) (vD_l (vD_r hD)) (ci := 4) (q0 := 0) rfl rfl) rfl rfl hl.1 rfl (lv_room (Nat.le_of_ble_eq_true rfl)) dL_law_769 ⟨by show c0 + mc + 0 ≤ 601024; omega, by show s0 + ms + 0 ≤ 7293033; omega⟩) hP hD hS hA (fun r4 u4 H locs hp4 hP hD hS => ?_)
  obtain ⟨I4, R4⟩ := u4
  obtain ⟨rfl, hj⟩ := hqr4 r4 (I4, R4) hp4
  have hP : va_P (dC, dI) vwCl (wL cI cJ cP h ad ad0 ad1 hm adm ao (I, R, CI, CJ, CR, CG, EI, ER, Eq, En, V) (I4, R4) fo) H := hP
  have hD : va_D (fun q : Nat => s.heap.size ≤ q) (wL cI cJ cP h ad ad0 ad1 hm adm ao (I, R, CI, CJ, CR, CG, EI, ER, Eq, En, V) (I4, R4) fo) := hD
  refine lv_icmp_eq (tgt := 802) hx hb dL_law_772 (by decide) (fun _ => ?_) (fun hne => absurd rfl hne)
  exact kk _ _ _ _ _ _ _ _ hj hP hD hS hl
set_option maxHeartbeats 4000000 in
set_option maxRecDepth 100000 in
theorem lc_drop {p : Program} {l : Launch} {e : Env} {s : State} {m : MethodId} {below : List Frame} {meth : Method} {c : Code} {b L : Nat} {xs : Nat → Int32} {dC : Nat → ClassId} {dI : Nat → Nat → Nat} {cI cJ cP : ClassId} {sa tL tM : Nat} {J : Nat → Nat → Nat → cS → mS → Prop} (hJ : Agree J) (X : LawC p l s m meth c b L xs dC dI cI cJ cP sa tL tM) {h hm ao : Nat} {ad ad0 ad1 adm : Nat → Nat} {i k c0 s0 : Nat} {u : cS} {v : mS} {fo : Nat → Int64} {H : Heap} {locs : List Loc} {ls : Array Slot} (hi : i + 6 ≤ L) (hk : k < 512) (hj : J k c0 s0 u v) (hP : va_P (dC, dI) vwCl (wL cI cJ cP h ad ad0 ad1 hm adm ao u v fo) H) (hD : va_D (fun q : Nat => s.heap.size ≤ q) (wL cI cJ cP h ad ad0 ad1 hm adm ao u v fo)) (hS : va_S (fun q : Nat => s.heap.size ≤ q) s.heap H locs) (hl : lv_has ls 7 [(0, .ref b), (1, .ref h), (2, .ref hm), (3, .ref ao), (4, .int (nI i))]) (kk : ∀ (c1 s1 : Nat) (u' : cS) (v' : mS) (fo : Nat → Int64) (H : Heap) (locs : List Loc) (ls : Array Slot), J (k + 1) c1 s1 u' v' → va_P (dC, dI) vwCl (wL cI cJ cP h ad ad0 ad1 hm adm ao u' v' fo) H → va_D (fun q : Nat => s.heap.size ≤ q) (wL cI cJ cP h ad ad0 ad1 hm adm ao u' v' fo) → va_S (fun q : Nat => s.heap.size ≤ q) s.heap H locs → lv_has ls 7 [(0, .ref b), (1, .ref h), (2, .ref hm), (3, .ref ao), (4, .int (nI i))] → W p l e room_1 s m #[Value.ref b] below meth c H locs c1 s1 (lw_Z below #[Value.ref b] s) (F0 m 802 ls [])) : W p l e room_1 s m #[Value.ref b] below meth c H locs c0 s0 (lw_Z below #[Value.ref b] s) (F0 m 777 ls []) := by
  obtain ⟨hx, hb, hr, hml, hown, hts, hX, hbl, hlocks, hL, htr, hn, hK, hth, hst⟩ := X
  have hA : ∀ q : Nat, s.heap.size ≤ q → (fun q : Nat => s.heap.size ≤ q) q := fun _ h => h
  have hbA : ¬ (fun q : Nat => s.heap.size ≤ q) b := Nat.not_le.mpr hbl
  obtain ⟨hr1, hr2⟩ := hJ.room (Nat.le_of_lt hk) hj
  obtain ⟨I, R, CI, CJ, CR, CG, EI, ER, Eq, En, V⟩ := u
  obtain ⟨I4, R4⟩ := v
  obtain ⟨Q3, hq, hqr⟩ := hJ.drop (xs (nI i + 1).toNatClampNeg) hk hj
  refine lv_aload_n hx hb dL_law_777 rfl (lv_at hl 1 rfl) ?_
  refine lv_aload_n hx hb dL_law_778 rfl (lv_at hl 0 rfl) ?_
  refine lv_iload hx hb dL_law_779 (lv_at hl 4 rfl) ?_
  refine lv_iconst (v := (1 : Int32)) hx hb dL_law_781 (by decide) ?_
  refine lv_iadd hx hb dL_law_782 ?_
  refine va_sld hx hb hX hbl hbA hS (li1 hi hL) dL_law_783 ?_
  refine x_calli (w1 := []) (w2 := wd4 cI hm adm I4 R4 ++ [(ao, .inl (cJ, 1, .inr (.inl fo)))]) (wf := fun u : (Nat → Int32) × (Nat → Nat → Int32) × (Nat → Int32) × (Nat → Int64) × (Nat → Nat → Int32) × (Nat → Nat → Int64) × (Nat → Int32) × (Nat → Nat → Int32) × (Nat) × (Nat) × (vS) => wd3 cI cJ cP h ad ad0 ad1 u.1 u.2.1 u.2.2.1 u.2.2.2.1 u.2.2.2.2.1 u.2.2.2.2.2.1 u.2.2.2.2.2.2.1 u.2.2.2.2.2.2.2.1 u.2.2.2.2.2.2.2.2.1 u.2.2.2.2.2.2.2.2.2.1 u.2.2.2.2.2.2.2.2.2.2) (va_runV (As := [.int (xs (nI i + 1).toNatClampNeg)]) (rest := []) ⟨hx, hb, hml, hown, hts⟩ (tX3_drop l dC dI cI cJ cP h ad ad0 ad1 _ Q3 (xs (nI i + 1).toNatClampNeg) I R CI CJ CR CG EI ER Eq En V hq) (cwV 1 hts gL_law_X3_drop rfl rfl rfl (by decide +kernel) ⟨Nat.le_of_ble_eq_true rfl, Nat.le_of_ble_eq_true rfl⟩) (wPreVN hn hK (vP_l hP) (vD_l hD) (ci := 3) (q0 := 0) rfl rfl) rfl rfl hl.1 rfl (lv_room (Nat.le_of_ble_eq_true rfl)) dL_law_784 ⟨by show c0 + 0 ≤ 601024; omega, by show s0 + 0 ≤ 7293033; omega⟩) hP hD hS hA (fun r u H locs hp hP hD hS => ?_)
  obtain ⟨I, R, CI, CJ, CR, CG, EI, ER, Eq, En, V⟩ := u
  obtain ⟨Q4, hq4, hqr4⟩ := hqr r (I, R, CI, CJ, CR, CG, EI, ER, Eq, En, V) hp
  have hP : va_P (dC, dI) vwCl (wL cI cJ cP h ad ad0 ad1 hm adm ao (I, R, CI, CJ, CR, CG, EI, ER, Eq, En, V) (I4, R4) fo) H := hP
  have hD : va_D (fun q : Nat => s.heap.size ≤ q) (wL cI cJ cP h ad ad0 ad1 hm adm ao (I, R, CI, CJ, CR, CG, EI, ER, Eq, En, V) (I4, R4) fo) := hD
  refine lv_aload_n hx hb dL_law_787 rfl (lv_at hl 2 rfl) ?_
  refine lv_aload_n hx hb dL_law_788 rfl (lv_at hl 0 rfl) ?_
  refine lv_iload hx hb dL_law_789 (lv_at hl 4 rfl) ?_
  refine lv_iconst (v := (1 : Int32)) hx hb dL_law_791 (by decide) ?_
  refine lv_iadd hx hb dL_law_792 ?_
  refine va_sld hx hb hX hbl hbA hS (li1 hi hL) dL_law_793 ?_
  refine x_calli (w1 := wd3 cI cJ cP h ad ad0 ad1 I R CI CJ CR CG EI ER Eq En V) (w2 := [(ao, .inl (cJ, 1, .inr (.inl fo)))]) (wf := fun u : (Nat → Int32) × (Nat → Nat → Int32) => wd4 cI hm adm u.1 u.2) (va_runV (As := [.int (xs (nI i + 1).toNatClampNeg)]) (rest := [.int r]) ⟨hx, hb, hml, hown, hts⟩ (tX4_drop l dC dI cI hm adm _ Q4 (xs (nI i + 1).toNatClampNeg) I4 R4 hq4) (cwV 1 hts gL_law_X4_drop rfl rfl rfl (by decide +kernel) ⟨Nat.le_of_ble_eq_true rfl, Nat.le_of_ble_eq_true rfl⟩) (wPreV (hK.sub [0] rfl) (vP_l (vP_r hP)) (vD_l (vD_r hD)) (ci := 4) (q0 := 0) rfl rfl) rfl rfl hl.1 rfl (lv_room (Nat.le_of_ble_eq_true rfl)) dL_law_794 ⟨by show c0 + 0 + 0 ≤ 601024; omega, by show s0 + 0 + 0 ≤ 7293033; omega⟩) hP hD hS hA (fun r4 u4 H locs hp4 hP hD hS => ?_)
  obtain ⟨I4, R4⟩ := u4
  obtain ⟨rfl, hj⟩ := hqr4 r4 (I4, R4) hp4
  have hP : va_P (dC, dI) vwCl (wL cI cJ cP h ad ad0 ad1 hm adm ao (I, R, CI, CJ, CR, CG, EI, ER, Eq, En, V) (I4, R4) fo) H := hP
  have hD : va_D (fun q : Nat => s.heap.size ≤ q) (wL cI cJ cP h ad ad0 ad1 hm adm ao (I, R, CI, CJ, CR, CG, EI, ER, Eq, En, V) (I4, R4) fo) := hD
  refine lv_icmp_eq (tgt := 802) hx hb dL_law_797 (by decide) (fun _ => ?_) (fun hne => absurd rfl hne)
  exact kk _ _ _ _ _ _ _ _ hj hP hD hS hl
