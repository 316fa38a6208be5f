/-! THE LAW -/
theorem whole_start {p : Program} {e : Env} {s : State} {m : MethodId} {below : List Frame} {meth : Method} {c : Code} (l : Launch) (hflags : l.flags = flags0) {b L : Nat} {xs : Nat → Int32} (hL : L ≤ 3072) (C0 : lw_At p s m meth c b L xs) : W p l e room_1 s m #[Value.ref b] below meth c s.heap [] 0 0 (lw_Z below #[Value.ref b] s) (entryFrame m ([Value.ref b] : List Value).toArray 7) := by
  obtain ⟨x, hx⟩ : ∃ x, x = 320 * (320 * (bT 320 + 1) + 5) + 10 := ⟨_, rfl⟩
  have hQ : QBp (x + 40000000000) := by
    refine ⟨?_, ?_⟩
    · rw [← hx]
      exact Nat.le_add_right _ _
    · omega
  refine whole_of_inv l hflags hL C0 (I := fun j S => ∃ k, j = 6 * k ∧ k ≤ 512 ∧ INV k S) (x + 40000000000) ⟨0, rfl, Nat.zero_le _, s0_INV⟩ (fun j S hj hI => ?_) (fun j S hI => ?_)
  · obtain ⟨k, e, _, h⟩ := hI
    obtain ⟨S2, i, f⟩ := step (xs := xs) (L := L) (j := j) hQ (by omega) hL hj (by omega) h (la_op xs j)
    exact ⟨S2, ⟨k + 1, by omega, by omega, i⟩, f⟩
  · obtain ⟨k, _, hk, h⟩ := hI
    exact INV_cnt h hk
