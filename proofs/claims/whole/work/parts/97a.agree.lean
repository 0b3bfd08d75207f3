/-! all together -/
def B00 : Bk := ((va_up (va_up (va_up (fun _ => 0) 12 10) 14 14) 15 14), (fun _ _ => 0))
theorem inv00 : InvB B00 := ⟨⟨by decide, by decide, by decide, by decide, by decide, by decide, by decide, by decide, by decide⟩, ⟨fun _ => Nat.zero_le _, fun _ => Nat.zero_le _, fun _ => Nat.zero_le _, fun _ => Nat.zero_le _, fun _ => Nat.zero_le _, fun _ => Nat.zero_le _, fun _ => (show 0 < 16 by decide), fun _ => Nat.zero_le _, fun _ => Nat.zero_le _, fun _ => Nat.zero_le _⟩, ⟨fun p hp => absurd hp (Nat.not_lt_zero p), fun _ _ => rfl, fun p f hf => absurd hf (Nat.not_lt_zero f), fun p f g hf => absurd hf (Nat.not_lt_zero f)⟩, fun g hg => absurd hg (Nat.not_lt_zero g)⟩
theorem rc00 (q : Nat) : RC (u00 q) B00 0 := by
  refine ⟨⟨rfl, rfl, rfl⟩, ⟨fun _ => rfl, fun _ => rfl, rfl, rfl, rfl, rfl⟩, ⟨rfl, fun p hp => absurd hp (Nat.not_lt_zero p)⟩, ⟨rfl, rfl, fun p hp => absurd hp (Nat.not_lt_zero p), fun g hg => absurd hg (Nat.not_lt_zero g)⟩, Nat.le_refl _, rfl, rfl, fun S hS => ?_⟩
  have : S = 0 := by
    have hS : S < 1 := hS
    omega
  subst this
  exact ⟨12, rfl, PkL_0⟩
theorem rm00 : RM v00.1 v00.2 B00 := by
  refine ⟨fun j hj => ?_, fun _ _ _ => rfl⟩
  simp only [mI, List.mem_cons, List.not_mem_nil, or_false] at hj
  rcases hj with rfl | rfl | rfl | rfl | rfl | rfl | rfl | rfl <;> rfl
theorem jj00 (q : Nat) : JJ 0 36 33600 (u00 q) v00 := ⟨B00, 0, inv00, fun g hg => absurd hg (Nat.not_lt_zero g), rc00 q, rm00, by omega, by omega⟩
theorem agreeJJ : Agree JJ := ⟨ag_room, ag_skip, ag_child, ag_consent, ag_picture, ag_face, ag_set, ag_count, ag_told, ag_name, ag_seen, ag_proof, ag_shows, ag_choose, ag_wrong, ag_best, ag_mend, ag_choices, ag_lacking, ag_fewest, ag_lay, ag_page, ag_left, ag_late, ag_drop⟩
theorem whole_start {p : Program} {e : Env} {s : State} {m : MethodId} {below : List Frame} {meth : Method} {c : Code} (l : Launch) (hfl : l.flags = flags0) {b L : Nat} {xs : Nat → Int32} (hL : L ≤ 3072) (C0 : lw_At p s m meth c b L xs) : W p l e room_1 s m #[Value.ref b] below meth c s.heap [] 0 0 (lw_Z below #[Value.ref b] s) (entryFrame m ([Value.ref b] : List Value).toArray 7) :=
  law_start l (by unfold Launch.stackTraces; rw [hfl]; decide +kernel) agreeJJ jj00 hL C0
