/-- a new picture at the end -/
def pvNew (V : vS) (q : Nat) (u : Nat → Nat) (a b c : Int32) : vS := (pvN V + 1, va_up (pvH V) (pvN V) q, va_up (pvA V) (pvN V) u, va_up (pvI V) (pvN V) (va_up (va_up (va_up (fun _ => 0) 0 a) 1 b) 2 c), va_up (pvR V) (pvN V) (fun _ _ => 0))
theorem pvP_new (V : vS) (q : Nat) (u : Nat → Nat) (a b c : Int32) : pvP (pvNew V q u a b c) = va_up (pvP V) (pvN V) (some q) := by
  funext k
  show (if k < pvN V + 1 then some (va_up (pvH V) (pvN V) q k) else none) = (if k = pvN V then some q else if k < pvN V then some (pvH V k) else none)
  by_cases h1 : k = pvN V
  · subst h1; simp [va_up]
  · by_cases h2 : k < pvN V
    · have h3 : k < pvN V + 1 := by omega
      simp only [h3, h1, h2, if_true, if_false, va_up]
    · have h3 : ¬ k < pvN V + 1 := by omega
      simp only [h3, h1, h2, if_false]
theorem wdP_new (cI : ClassId) (V : vS) (q : Nat) (u : Nat → Nat) (a b c : Int32) : wdP cI (pvNew V q u a b c) = wdP cI V ++ wd2 cI q u (va_up (va_up (va_up (fun _ => 0) 0 a) 1 b) 2 c) (fun _ _ => 0) := by
  have e : ∀ j ∈ List.range (pvN V), wd2 cI (pvH (pvNew V q u a b c) j) (pvA (pvNew V q u a b c) j) (pvI (pvNew V q u a b c) j) (pvR (pvNew V q u a b c) j) = wd2 cI (pvH V j) (pvA V j) (pvI V j) (pvR V j) := by
    intro j hj
    have hne : j ≠ pvN V := by have := List.mem_range.mp hj; omega
    have e1 : pvH (pvNew V q u a b c) j = pvH V j := by show va_up (pvH V) (pvN V) q j = _; simp only [va_up, hne, if_false]
    have e2 : pvA (pvNew V q u a b c) j = pvA V j := by show va_up (pvA V) (pvN V) u j = _; simp only [va_up, hne, if_false]
    have e3 : pvI (pvNew V q u a b c) j = pvI V j := by show va_up (pvI V) (pvN V) _ j = _; simp only [va_up, hne, if_false]
    have e4 : pvR (pvNew V q u a b c) j = pvR V j := by show va_up (pvR V) (pvN V) _ j = _; simp only [va_up, hne, if_false]
    rw [e1, e2, e3, e4]
  have f1 : pvH (pvNew V q u a b c) (pvN V) = q := by show va_up (pvH V) (pvN V) q (pvN V) = _; simp only [va_up, if_true]
  have f2 : pvA (pvNew V q u a b c) (pvN V) = u := by show va_up (pvA V) (pvN V) u (pvN V) = _; simp only [va_up, if_true]
  have f3 : pvI (pvNew V q u a b c) (pvN V) = va_up (va_up (va_up (fun _ => 0) 0 a) 1 b) 2 c := by show va_up (pvI V) (pvN V) _ (pvN V) = _; simp only [va_up, if_true]
  have f4 : pvR (pvNew V q u a b c) (pvN V) = fun _ _ => 0 := by show va_up (pvR V) (pvN V) _ (pvN V) = _; simp only [va_up, if_true]
  unfold wdP
  show (List.range (pvN V + 1)).flatMap _ = _
  rw [List.range_succ, List.flatMap_append, List.flatMap_def, List.flatMap_def, List.flatMap_def, List.map_congr_left e]
  simp only [List.map_cons, List.map_nil, f1, f2, f3, f4, List.flatten_cons, List.flatten_nil, List.append_nil]
section
variable (cI cJ cP : ClassId) (h : Nat) (ad ad0 ad1 : Nat → Nat) (I : Nat → Int32) (R : Nat → Nat → Int32) (CI : Nat → Int32) (CJ : Nat → Int64) (CR : Nat → Nat → Int32) (CG : Nat → Nat → Int64) (EI : Nat → Int32) (ER : Nat → Nat → Int32) (Eq En : Nat) (V : vS)
theorem wd3_P (w : va_W) (f : Nat → Option Nat) : ((wd3 cI cJ cP h ad ad0 ad1 I R CI CJ CR CG EI ER Eq En V) ++ w).set 3 (ad 3, .inl (cP, 14, .inr (.inr (.inr (.inr f))))) = (wd3o cI cP h ad I R f ++ (wd0 cI cJ (ad 7) ad0 CI CJ CR CG ++ (wd1 cI (ad 8) ad1 EI ER Eq En ++ wdP cI V))) ++ w := rfl
theorem wd3_new (q : Nat) (u : Nat → Nat) (a b c : Int32) : (wd3o cI cP h ad I R (va_up (pvP V) (pvN V) (some q)) ++ (wd0 cI cJ (ad 7) ad0 CI CJ CR CG ++ (wd1 cI (ad 8) ad1 EI ER Eq En ++ wdP cI V))) ++ wd2 cI q u (va_up (va_up (va_up (fun _ => 0) 0 a) 1 b) 2 c) (fun _ _ => 0) = wd3 cI cJ cP h ad ad0 ad1 I R CI CJ CR CG EI ER Eq En (pvNew V q u a b c) := by
  show _ = wd3o cI cP h ad I R (pvP (pvNew V q u a b c)) ++ (wd0 cI cJ (ad 7) ad0 CI CJ CR CG ++ (wd1 cI (ad 8) ad1 EI ER Eq En ++ wdP cI (pvNew V q u a b c)))
  rw [pvP_new, wdP_new, List.append_assoc, List.append_assoc, List.append_assoc]
end
theorem dflX2 : ∀ j, j < 11 → defaultValue (tyX2 j) = vp_V [.int 0, .int 0, .int 0, .int 0, .null, .null, .null, .null, .int 0, .int 0, .null] j := by decide +kernel
/-- what the class's static rows hold -/
def sL (i : Int32) : Int32 := ([0, 0, 0, 1] : List Int32).getD i.toNatClampNeg 0
def sM (i : Int32) : Int32 := ([50, 14, 14, 14] : List Int32).getD i.toNatClampNeg 0
def stF (tL tM : Nat) (A : Nat → Prop) (U : State) (H : Heap) : Prop := (va_Z "YearBook" "LEAST_SETTING" "[I" (.ref tL) A U H ∧ va_T .int tL 4 (fun j => .int (([0, 0, 0, 1] : List Int32).getD j 0)) A U H) ∧ (va_Z "YearBook" "MOST_SETTING" "[I" (.ref tM) A U H ∧ va_T .int tM 4 (fun j => .int (([50, 14, 14, 14] : List Int32).getD j 0)) A U H)
theorem stF.moved {tL tM : Nat} {A : Nat → Prop} {u U : State} {H : Heap} (hvm : u.vm.Alike U.vm) (h : stF tL tM A u H) : stF tL tM A U H := ⟨⟨h.1.1.moved hvm, h.1.2.moved hvm⟩, h.2.1.moved hvm, h.2.2.moved hvm⟩
theorem stF.kept {tL tM : Nat} {A : Nat → Prop} {U : State} {H H1 : Heap} (h : stF tL tM A U H) (hq : ∀ a : Nat, a < H.size → ¬ A a → H1[a]? = H[a]?) : stF tL tM A U H1 := ⟨⟨h.1.1.kept hq, h.1.2.kept hq⟩, h.2.1.kept hq, h.2.2.kept hq⟩
theorem stF.narrow {tL tM : Nat} {A B : Nat → Prop} {U : State} {H : Heap} (h : stF tL tM A U H) (hAB : ∀ q, B q → A q) : stF tL tM B U H := ⟨⟨h.1.1.narrow hAB, h.1.2.narrow hAB⟩, h.2.1.narrow hAB, h.2.2.narrow hAB⟩
