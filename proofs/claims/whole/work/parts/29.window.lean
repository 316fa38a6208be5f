/-! DECODING by a window of the next bytes -/
section EVWIN
variable {w b : ByteArray} {pc : Nat}
def ev_sim {α : Type} (w b : ByteArray) (pc : Nat) (r r' : Decoder α) : Prop := ∀ (p : Nat) (a : α) (p2 : Nat), r w p = .ok (a, p2) → r' b (pc + p) = .ok (a, pc + p2)
def ev_win (w b : ByteArray) (pc : Nat) : Prop := ∀ (p : Nat) (h : p < w.size), ∃ h2 : pc + p < b.size, b[pc + p] = w[p]
theorem ev_sim_pure {α : Type} (x : α) : ev_sim w b pc (pure x) (pure x) := by
  intro p a p2 h
  have h : (Except.ok (x, p) : Except DecodeError (α × Nat)) = .ok (a, p2) := h
  cases h
  rfl
theorem ev_sim_throw {α : Type} (e1 : DecodeError) (r' : Decoder α) : ev_sim w b pc (throw e1) r' := by
  intro p a p2 h
  have h : (Except.error e1 : Except DecodeError (α × Nat)) = .ok (a, p2) := h
  cases h
theorem ev_sim_bind {α β : Type} {r r' : Decoder α} {f f' : α → Decoder β} (h1 : ev_sim w b pc r r') (h2 : ∀ x, ev_sim w b pc (f x) (f' x)) : ev_sim w b pc (r >>= f) (r' >>= f') := by
  intro p a p2 h
  have e0 : (r >>= f) w p = (r w p).bind (fun z => f z.1 w z.2) := rfl
  rw [e0] at h
  cases hr : r w p with
  | error e => rw [hr] at h; cases h
  | ok z =>
    obtain ⟨x, p1⟩ := z
    rw [hr] at h
    have h : f x w p1 = .ok (a, p2) := h
    have e1 : (r' >>= f') b (pc + p) = (r' b (pc + p)).bind (fun z => f' z.1 b z.2) := rfl
    rw [e1, h1 p x p1 hr]
    exact h2 x p1 a p2 h
theorem ev_u1_eq (all : ByteArray) (p : Nat) : (Reader.u1 : Decoder Nat) all p = if h : p < all.size then .ok (all[p].toNat, p + 1) else .error (HasTruncated.truncated p) := by
  show (Reader.u1 : Decoder Nat) all p = _
  unfold Reader.u1
  by_cases h : p < all.size
  · rw [dif_pos h]
    simp [bind, ReaderT.bind, StateT.bind, Except.bind, read, readThe, MonadReaderOf.read, ReaderT.read, get, getThe, MonadStateOf.get, liftM, monadLift, MonadLift.monadLift, StateT.get, pure, Except.pure, h, set, MonadStateOf.set, StateT.set, ReaderT.pure, StateT.pure, StateT.lift]
  · rw [dif_neg h]
    simp [bind, ReaderT.bind, StateT.bind, Except.bind, read, readThe, MonadReaderOf.read, ReaderT.read, get, getThe, MonadStateOf.get, liftM, monadLift, MonadLift.monadLift, StateT.get, pure, Except.pure, h, throw, throwThe, MonadExceptOf.throw, StateT.lift]
theorem ev_sim_u1 (hw : ev_win w b pc) : ev_sim w b pc (Reader.u1 : Decoder Nat) Reader.u1 := by
  intro p a p2 h
  rw [ev_u1_eq] at h ⊢
  split at h
  · next hp =>
    cases h
    obtain ⟨h2, e⟩ := hw p hp
    rw [dif_pos h2, e]
    rfl
  · cases h
theorem ev_sim_map {α β : Type} {r r' : Decoder α} (f : α → β) (h1 : ev_sim w b pc r r') : ev_sim w b pc (f <$> r) (f <$> r') := ev_sim_bind h1 (fun x => ev_sim_pure (f x))
theorem ev_sim_u2 (hw : ev_win w b pc) : ev_sim w b pc (Reader.u2 : Decoder Nat) Reader.u2 := ev_sim_bind (ev_sim_u1 hw) (fun x => ev_sim_bind (ev_sim_u1 hw) (fun y => ev_sim_pure _))
theorem ev_sim_u4 (hw : ev_win w b pc) : ev_sim w b pc (Reader.u4 : Decoder Nat) Reader.u4 := ev_sim_bind (ev_sim_u2 hw) (fun x => ev_sim_bind (ev_sim_u2 hw) (fun y => ev_sim_pure _))
theorem ev_sim_s1 (hw : ev_win w b pc) : ev_sim w b pc (Reader.s1 : Decoder Int) Reader.s1 := ev_sim_map _ (ev_sim_u1 hw)
theorem ev_sim_s2 (hw : ev_win w b pc) : ev_sim w b pc (Reader.s2 : Decoder Int) Reader.s2 := ev_sim_map _ (ev_sim_u2 hw)
theorem ev_sim_s4 (hw : ev_win w b pc) : ev_sim w b pc (Reader.s4 : Decoder Int) Reader.s4 := ev_sim_map _ (ev_sim_u4 hw)
end EVWIN
