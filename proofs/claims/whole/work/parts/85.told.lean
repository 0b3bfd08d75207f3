abbrev nNS : String := "java/util/NoSuchElementException"
def rx13 : ByteArray := ⟨#[0x2a, 0x2b, 0xb7, 0x00, 0x0d, 0xb1]⟩
theorem rx13_0 : decode rx13 0 = .ok (.aload_n 0, 1) := by decide +kernel
theorem rx13_1 : decode rx13 1 = .ok (.aload_n 1, 1) := by decide +kernel
theorem rx13_2 : decode rx13 2 = .ok (.invokespecial 13, 3) := by decide +kernel
theorem rx13_5 : decode rx13 5 = .ok (.return_, 1) := by decide +kernel
abbrev lNS : List Cond := vx_atX RX3 105 nNS 13 rx13 ["java/lang/RuntimeException", "java/lang/Exception"]
theorem lNS_ot : ∀ w ∈ (Cond.classLink RX3 101 nNS) :: (Cond.initialized nNS) :: lNS, vx_ot w = true := by decide +kernel
theorem lNS_bad : ∀ w ∈ lNS.filter (fun w => !goodWord w), w ∈ ([.castable nNS nNS, .declares (Bundle.initS "java/lang/RuntimeException"), .declares (Bundle.initS "java/lang/Exception"), .declares (Bundle.initS "java/lang/Throwable")] : List Cond) := by decide +kernel
/-- what a throw needs of the tables beside the good words, and of the heap -/
def thW (sa : Nat) (U : State) : Prop := (va_Nw (.castable nNS nNS) U ∧ va_Nw (.declares (Bundle.initS "java/lang/RuntimeException")) U ∧ va_Nw (.declares (Bundle.initS "java/lang/Exception")) U ∧ va_Nw (.declares (Bundle.initS "java/lang/Throwable")) U) ∧ vk_R RX3 103 "no such picture, or nothing such of it" sa U
theorem thW.warm {sa : Nat} {s U : State} (hW : s.WarmedH U.vm) (h : thW sa s) : thW sa U := ⟨⟨h.1.1.warmC hW, h.1.2.1.warmD hW, h.1.2.2.1.warmD hW, h.1.2.2.2.warmD hW⟩, h.2.warm hW⟩
theorem thW.same {sa : Nat} {s U : State} (e : s.vm = U.vm) (h : thW sa s) : thW sa U := ⟨⟨h.1.1.same rfl e, h.1.2.1.same rfl e, h.1.2.2.1.same rfl e, h.1.2.2.2.same rfl e⟩, h.2.same e.symm⟩
theorem thW.at {sa : Nat} {s : State} {args : Array Value} (h : thW sa s) (hg : ∀ w ∈ lNS.filter goodWord, w.before args s = true) : ∀ w ∈ lNS, w.before args s = true :=
  vx_hat hg lNS_bad (vx_c (va_Nw.use rfl h.1.1) (vx_c (va_Nw.use rfl h.1.2.1) (vx_c (va_Nw.use rfl h.1.2.2.1) (vx_c (va_Nw.use rfl h.1.2.2.2) vx_n))))
def thF (sa : Nat) (A : Nat → Prop) (U : State) (H : Heap) : Prop := thW sa U ∧ vx_Zq Bundle.tN "UNASSIGNED_STACK" Bundle.steD A U H ∧ vx_Zq Bundle.tN "SUPPRESSED_SENTINEL" Bundle.listD A U H
abbrev xAt (D : va_G) (cl : List vw_C) (tys : List (ClassId × FieldType)) (A : Nat → Prop) (w : va_W) : String → Unit → State → Prop := fun E _ t => E = nNS ∧ va_P D cl w t.heap ∧ va_K D cl tys t ∧ va_D A w
theorem xAt.at {D : va_G} {cl : List vw_C} {tys : List (ClassId × FieldType)} {A : Nat → Prop} {w : va_W} {px : Prop} {s t : State} {H : Heap} {locs : List Loc} (hq : px) (hK : va_K D cl tys s) (hP : va_P D cl w H) (hD : va_D A w) (hS : va_S A s.heap H locs) (ha : s.vm.Alike t.vm) (hz : H.size ≤ t.heap.size) (hk : ∀ q : Nat, q < H.size → t.heap[q]? = H[q]?) : vx_X (fun _ : Unit => px) (xAt D cl tys A w) A nNS s t :=
  ⟨(), hq, ⟨rfl, hP.kept (fun k q hq => hk q.1 (hP k q hq).lt), va_K.moved ha hK, hD⟩, Nat.le_trans hS.1 hz, fun q h1 h2 => (hk q (Nat.lt_of_lt_of_le h1 hS.1)).trans (hS.2.1 q h1 h2)⟩
