/-! DECODING by a window of the next bytes -/
section EVWIN
variable {w b : ByteArray} {pc : Nat}
def ev_sim {α : Type} (w b : ByteArray) (pc : Nat) (r r' : Decoder α) : Prop := ∀ (p : Nat) (a : α) (p2 : Nat), r w p = .ok (a, p2) → r' b (pc + p) = .ok (a, pc + p2)
def ev_win (w b : ByteArray) (pc : Nat) : Prop := ∀ (p : Nat) (h : p < w.size), ∃ h2 : pc + p < b.size, b[pc + p] = w[p]
theorem ev_sim_pure {α : Type} (x : α) : ev_sim w b pc (pure x) (pure x) := by
  intro p a p2 h
  have h : (Except.ok (x, p) : Except DecodeError (α × Nat)) = .ok (a, p2) := h
  cases h
  rfl
theorem ev_sim_throw {α : Type} (e1 : DecodeError) (r' : Decoder α) : ev_sim w b pc (throw e1) r' := by
  intro p a p2 h
  have h : (Except.error e1 : Except DecodeError (α × Nat)) = .ok (a, p2) := h
  cases h
theorem ev_sim_bind {α β : Type} {r r' : Decoder α} {f f' : α → Decoder β} (h1 : ev_sim w b pc r r') (h2 : ∀ x, ev_sim w b pc (f x) (f' x)) : ev_sim w b pc (r >>= f) (r' >>= f') := by
  intro p a p2 h
  have e0 : (r >>= f) w p = (r w p).bind (fun z => f z.1 w z.2) := rfl
  rw [e0] at h
  cases hr : r w p with
  | error e => rw [hr] at h; cases h
  | ok z =>
    obtain ⟨x, p1⟩ := z
    rw [hr] at h
    have h : f x w p1 = .ok (a, p2) := h
    have e1 : (r' >>= f') b (pc + p) = (r' b (pc + p)).bind (fun z => f' z.1 b z.2) := rfl
    rw [e1, h1 p x p1 hr]
    exact h2 x p1 a p2 h
theorem ev_u1_eq (all : ByteArray) (p : Nat) : (Reader.u1 : Decoder Nat) all p = if h : p < all.size then .ok (all[p].toNat, p + 1) else .error (HasTruncated.truncated p) := by
  have e : (Reader.u1 : Decoder Nat) all p = (if h : p < all.size then (do MonadStateOf.set (p + 1); Pure.pure all[p].toNat : Decoder Nat) else throw (HasTruncated.truncated p)) all p := rfl
  rw [e]
  by_cases h : p < all.size
  · rw [dif_pos h, dif_pos h]
    rfl
  · rw [dif_neg h, dif_neg h]
    rfl
theorem ev_sim_u1 (hw : ev_win w b pc) : ev_sim w b pc (Reader.u1 : Decoder Nat) Reader.u1 := by
  intro p a p2 h
  rw [ev_u1_eq] at h ⊢
  split at h
  · next hp =>
    cases h
    obtain ⟨h2, e⟩ := hw p hp
    rw [dif_pos h2, e]
    rfl
  · cases h
theorem ev_sim_map {α β : Type} {r r' : Decoder α} (f : α → β) (h1 : ev_sim w b pc r r') : ev_sim w b pc (f <$> r) (f <$> r') := ev_sim_bind h1 (fun x => ev_sim_pure (f x))
theorem ev_sim_u2 (hw : ev_win w b pc) : ev_sim w b pc (Reader.u2 : Decoder Nat) Reader.u2 := ev_sim_bind (ev_sim_u1 hw) (fun x => ev_sim_bind (ev_sim_u1 hw) (fun y => ev_sim_pure _))
theorem ev_sim_u4 (hw : ev_win w b pc) : ev_sim w b pc (Reader.u4 : Decoder Nat) Reader.u4 := ev_sim_bind (ev_sim_u2 hw) (fun x => ev_sim_bind (ev_sim_u2 hw) (fun y => ev_sim_pure _))
theorem ev_sim_s1 (hw : ev_win w b pc) : ev_sim w b pc (Reader.s1 : Decoder Int) Reader.s1 := ev_sim_map _ (ev_sim_u1 hw)
theorem ev_sim_s2 (hw : ev_win w b pc) : ev_sim w b pc (Reader.s2 : Decoder Int) Reader.s2 := ev_sim_map _ (ev_sim_u2 hw)
theorem ev_sim_s4 (hw : ev_win w b pc) : ev_sim w b pc (Reader.s4 : Decoder Int) Reader.s4 := ev_sim_map _ (ev_sim_u4 hw)
theorem ev_bind_ok {α β : Type} {r : Decoder α} {f : α → Decoder β} {p : Nat} {z : β × Nat} (h : (r >>= f) w p = .ok z) : ∃ x p1, r w p = .ok (x, p1) ∧ f x w p1 = .ok z := by
  have e0 : (r >>= f) w p = (r w p).bind (fun z => f z.1 w z.2) := rfl
  rw [e0] at h
  cases hr : r w p with
  | error e => rw [hr] at h; cases h
  | ok z => rw [hr] at h; exact ⟨z.1, z.2, rfl, h⟩
theorem ev_bind_mk {α β : Type} {r : Decoder α} {f : α → Decoder β} {p : Nat} {x : α} {p1 : Nat} {z : Except DecodeError (β × Nat)} (h : r b p = .ok (x, p1)) (h2 : f x b p1 = z) : (r >>= f) b p = z := by
  have e0 : (r >>= f) b p = (r b p).bind (fun z => f z.1 b z.2) := rfl
  rw [e0, h]
  exact h2
theorem ev_sim_ite {α : Type} {c : Prop} [Decidable c] {r r' : Decoder α} {e e' : DecodeError} (h : ev_sim w b pc r r') : ev_sim w b pc (if c then r else throw e) (if c then r' else throw e') := by
  by_cases hc : c
  · rw [if_pos hc, if_pos hc]; exact h
  · rw [if_neg hc]; exact ev_sim_throw _ _
theorem ev_sim_newarray (hw : ev_win w b pc) : ev_sim w b pc (Decoder.newarray 0) (Decoder.newarray pc) := by
  refine ev_sim_bind (ev_sim_u1 hw) (fun x => ?_)
  split
  all_goals first | exact ev_sim_pure _ | exact ev_sim_throw _ _
theorem ev_sim_wide (hw : ev_win w b pc) : ev_sim w b pc (Decoder.wide 0) (Decoder.wide pc) := by
  refine ev_sim_bind (ev_sim_u1 hw) (fun x => ?_)
  split
  all_goals first | exact ev_sim_throw _ _ | exact ev_sim_bind (ev_sim_u2 hw) (fun _ => ev_sim_pure _) | exact ev_sim_bind (ev_sim_u2 hw) (fun _ => ev_sim_bind (ev_sim_s2 hw) fun _ => ev_sim_pure _)
theorem ev_sim_multi (hw : ev_win w b pc) : ev_sim w b pc (Decoder.multianewarray 0) (Decoder.multianewarray pc) := by
  refine ev_sim_bind (ev_sim_u2 hw) (fun x => ev_sim_bind (ev_sim_u1 hw) (fun y => ?_))
  by_cases c : (y != 0) = true
  · simp only [c]
    exact ev_sim_pure _
  · simp only [c]
    intro p a p2 h
    cases h
def ev_FI : { F : Nat → Nat → Decoder Instr // ∀ pc, Decoder.instr pc = Reader.u1 >>= F pc } := ⟨_, fun _ => rfl⟩
def ev_PI (w b : ByteArray) (pc x : Nat) : Prop := ev_win w b pc → ev_sim w b pc (ev_FI.1 0 x) (ev_FI.1 pc x)
def ev_ok1 (x : Nat) : Bool := !(Nat.beq x 170 || (Nat.beq x 171 || (Nat.beq x 185 || (Nat.beq x 186 || Nat.ble 202 x))))
theorem ev_a0 : ev_PI w b pc 0 := fun hw => (ev_sim_pure _ : ev_sim w b pc (ev_FI.1 0 0) (ev_FI.1 pc 0))
theorem ev_a1 : ev_PI w b pc 1 := fun hw => (ev_sim_pure _ : ev_sim w b pc (ev_FI.1 0 1) (ev_FI.1 pc 1))
theorem ev_a2 : ev_PI w b pc 2 := fun hw => (ev_sim_pure _ : ev_sim w b pc (ev_FI.1 0 2) (ev_FI.1 pc 2))
theorem ev_a3 : ev_PI w b pc 3 := fun hw => (ev_sim_pure _ : ev_sim w b pc (ev_FI.1 0 3) (ev_FI.1 pc 3))
theorem ev_a4 : ev_PI w b pc 4 := fun hw => (ev_sim_pure _ : ev_sim w b pc (ev_FI.1 0 4) (ev_FI.1 pc 4))
theorem ev_a5 : ev_PI w b pc 5 := fun hw => (ev_sim_pure _ : ev_sim w b pc (ev_FI.1 0 5) (ev_FI.1 pc 5))
theorem ev_a6 : ev_PI w b pc 6 := fun hw => (ev_sim_pure _ : ev_sim w b pc (ev_FI.1 0 6) (ev_FI.1 pc 6))
theorem ev_a7 : ev_PI w b pc 7 := fun hw => (ev_sim_pure _ : ev_sim w b pc (ev_FI.1 0 7) (ev_FI.1 pc 7))
theorem ev_a8 : ev_PI w b pc 8 := fun hw => (ev_sim_pure _ : ev_sim w b pc (ev_FI.1 0 8) (ev_FI.1 pc 8))
theorem ev_a9 : ev_PI w b pc 9 := fun hw => (ev_sim_pure _ : ev_sim w b pc (ev_FI.1 0 9) (ev_FI.1 pc 9))
theorem ev_a10 : ev_PI w b pc 10 := fun hw => (ev_sim_pure _ : ev_sim w b pc (ev_FI.1 0 10) (ev_FI.1 pc 10))
theorem ev_a11 : ev_PI w b pc 11 := fun hw => (ev_sim_pure _ : ev_sim w b pc (ev_FI.1 0 11) (ev_FI.1 pc 11))
theorem ev_a12 : ev_PI w b pc 12 := fun hw => (ev_sim_pure _ : ev_sim w b pc (ev_FI.1 0 12) (ev_FI.1 pc 12))
theorem ev_a13 : ev_PI w b pc 13 := fun hw => (ev_sim_pure _ : ev_sim w b pc (ev_FI.1 0 13) (ev_FI.1 pc 13))
theorem ev_a14 : ev_PI w b pc 14 := fun hw => (ev_sim_pure _ : ev_sim w b pc (ev_FI.1 0 14) (ev_FI.1 pc 14))
theorem ev_a15 : ev_PI w b pc 15 := fun hw => (ev_sim_pure _ : ev_sim w b pc (ev_FI.1 0 15) (ev_FI.1 pc 15))
theorem ev_a16 : ev_PI w b pc 16 := fun hw => (ev_sim_bind (ev_sim_s1 hw) (fun _ => ev_sim_pure _) : ev_sim w b pc (ev_FI.1 0 16) (ev_FI.1 pc 16))
theorem ev_a17 : ev_PI w b pc 17 := fun hw => (ev_sim_bind (ev_sim_s2 hw) (fun _ => ev_sim_pure _) : ev_sim w b pc (ev_FI.1 0 17) (ev_FI.1 pc 17))
theorem ev_a18 : ev_PI w b pc 18 := fun hw => (ev_sim_bind (ev_sim_u1 hw) (fun _ => ev_sim_pure _) : ev_sim w b pc (ev_FI.1 0 18) (ev_FI.1 pc 18))
theorem ev_a19 : ev_PI w b pc 19 := fun hw => (ev_sim_bind (ev_sim_u2 hw) (fun _ => ev_sim_pure _) : ev_sim w b pc (ev_FI.1 0 19) (ev_FI.1 pc 19))
theorem ev_a20 : ev_PI w b pc 20 := fun hw => (ev_sim_bind (ev_sim_u2 hw) (fun _ => ev_sim_pure _) : ev_sim w b pc (ev_FI.1 0 20) (ev_FI.1 pc 20))
theorem ev_a21 : ev_PI w b pc 21 := fun hw => (ev_sim_bind (ev_sim_u1 hw) (fun _ => ev_sim_pure _) : ev_sim w b pc (ev_FI.1 0 21) (ev_FI.1 pc 21))
theorem ev_a22 : ev_PI w b pc 22 := fun hw => (ev_sim_bind (ev_sim_u1 hw) (fun _ => ev_sim_pure _) : ev_sim w b pc (ev_FI.1 0 22) (ev_FI.1 pc 22))
theorem ev_a23 : ev_PI w b pc 23 := fun hw => (ev_sim_bind (ev_sim_u1 hw) (fun _ => ev_sim_pure _) : ev_sim w b pc (ev_FI.1 0 23) (ev_FI.1 pc 23))
theorem ev_a24 : ev_PI w b pc 24 := fun hw => (ev_sim_bind (ev_sim_u1 hw) (fun _ => ev_sim_pure _) : ev_sim w b pc (ev_FI.1 0 24) (ev_FI.1 pc 24))
theorem ev_a25 : ev_PI w b pc 25 := fun hw => (ev_sim_bind (ev_sim_u1 hw) (fun _ => ev_sim_pure _) : ev_sim w b pc (ev_FI.1 0 25) (ev_FI.1 pc 25))
theorem ev_a26 : ev_PI w b pc 26 := fun hw => (ev_sim_pure _ : ev_sim w b pc (ev_FI.1 0 26) (ev_FI.1 pc 26))
theorem ev_a27 : ev_PI w b pc 27 := fun hw => (ev_sim_pure _ : ev_sim w b pc (ev_FI.1 0 27) (ev_FI.1 pc 27))
theorem ev_a28 : ev_PI w b pc 28 := fun hw => (ev_sim_pure _ : ev_sim w b pc (ev_FI.1 0 28) (ev_FI.1 pc 28))
theorem ev_a29 : ev_PI w b pc 29 := fun hw => (ev_sim_pure _ : ev_sim w b pc (ev_FI.1 0 29) (ev_FI.1 pc 29))
theorem ev_a30 : ev_PI w b pc 30 := fun hw => (ev_sim_pure _ : ev_sim w b pc (ev_FI.1 0 30) (ev_FI.1 pc 30))
theorem ev_a31 : ev_PI w b pc 31 := fun hw => (ev_sim_pure _ : ev_sim w b pc (ev_FI.1 0 31) (ev_FI.1 pc 31))
theorem ev_a32 : ev_PI w b pc 32 := fun hw => (ev_sim_pure _ : ev_sim w b pc (ev_FI.1 0 32) (ev_FI.1 pc 32))
theorem ev_a33 : ev_PI w b pc 33 := fun hw => (ev_sim_pure _ : ev_sim w b pc (ev_FI.1 0 33) (ev_FI.1 pc 33))
theorem ev_a34 : ev_PI w b pc 34 := fun hw => (ev_sim_pure _ : ev_sim w b pc (ev_FI.1 0 34) (ev_FI.1 pc 34))
theorem ev_a35 : ev_PI w b pc 35 := fun hw => (ev_sim_pure _ : ev_sim w b pc (ev_FI.1 0 35) (ev_FI.1 pc 35))
theorem ev_a36 : ev_PI w b pc 36 := fun hw => (ev_sim_pure _ : ev_sim w b pc (ev_FI.1 0 36) (ev_FI.1 pc 36))
theorem ev_a37 : ev_PI w b pc 37 := fun hw => (ev_sim_pure _ : ev_sim w b pc (ev_FI.1 0 37) (ev_FI.1 pc 37))
theorem ev_a38 : ev_PI w b pc 38 := fun hw => (ev_sim_pure _ : ev_sim w b pc (ev_FI.1 0 38) (ev_FI.1 pc 38))
theorem ev_a39 : ev_PI w b pc 39 := fun hw => (ev_sim_pure _ : ev_sim w b pc (ev_FI.1 0 39) (ev_FI.1 pc 39))
theorem ev_a40 : ev_PI w b pc 40 := fun hw => (ev_sim_pure _ : ev_sim w b pc (ev_FI.1 0 40) (ev_FI.1 pc 40))
theorem ev_a41 : ev_PI w b pc 41 := fun hw => (ev_sim_pure _ : ev_sim w b pc (ev_FI.1 0 41) (ev_FI.1 pc 41))
theorem ev_a42 : ev_PI w b pc 42 := fun hw => (ev_sim_pure _ : ev_sim w b pc (ev_FI.1 0 42) (ev_FI.1 pc 42))
theorem ev_a43 : ev_PI w b pc 43 := fun hw => (ev_sim_pure _ : ev_sim w b pc (ev_FI.1 0 43) (ev_FI.1 pc 43))
theorem ev_a44 : ev_PI w b pc 44 := fun hw => (ev_sim_pure _ : ev_sim w b pc (ev_FI.1 0 44) (ev_FI.1 pc 44))
theorem ev_a45 : ev_PI w b pc 45 := fun hw => (ev_sim_pure _ : ev_sim w b pc (ev_FI.1 0 45) (ev_FI.1 pc 45))
theorem ev_a46 : ev_PI w b pc 46 := fun hw => (ev_sim_pure _ : ev_sim w b pc (ev_FI.1 0 46) (ev_FI.1 pc 46))
theorem ev_a47 : ev_PI w b pc 47 := fun hw => (ev_sim_pure _ : ev_sim w b pc (ev_FI.1 0 47) (ev_FI.1 pc 47))
theorem ev_a48 : ev_PI w b pc 48 := fun hw => (ev_sim_pure _ : ev_sim w b pc (ev_FI.1 0 48) (ev_FI.1 pc 48))
theorem ev_a49 : ev_PI w b pc 49 := fun hw => (ev_sim_pure _ : ev_sim w b pc (ev_FI.1 0 49) (ev_FI.1 pc 49))
theorem ev_a50 : ev_PI w b pc 50 := fun hw => (ev_sim_pure _ : ev_sim w b pc (ev_FI.1 0 50) (ev_FI.1 pc 50))
theorem ev_a51 : ev_PI w b pc 51 := fun hw => (ev_sim_pure _ : ev_sim w b pc (ev_FI.1 0 51) (ev_FI.1 pc 51))
theorem ev_a52 : ev_PI w b pc 52 := fun hw => (ev_sim_pure _ : ev_sim w b pc (ev_FI.1 0 52) (ev_FI.1 pc 52))
theorem ev_a53 : ev_PI w b pc 53 := fun hw => (ev_sim_pure _ : ev_sim w b pc (ev_FI.1 0 53) (ev_FI.1 pc 53))
theorem ev_a54 : ev_PI w b pc 54 := fun hw => (ev_sim_bind (ev_sim_u1 hw) (fun _ => ev_sim_pure _) : ev_sim w b pc (ev_FI.1 0 54) (ev_FI.1 pc 54))
theorem ev_a55 : ev_PI w b pc 55 := fun hw => (ev_sim_bind (ev_sim_u1 hw) (fun _ => ev_sim_pure _) : ev_sim w b pc (ev_FI.1 0 55) (ev_FI.1 pc 55))
theorem ev_a56 : ev_PI w b pc 56 := fun hw => (ev_sim_bind (ev_sim_u1 hw) (fun _ => ev_sim_pure _) : ev_sim w b pc (ev_FI.1 0 56) (ev_FI.1 pc 56))
theorem ev_a57 : ev_PI w b pc 57 := fun hw => (ev_sim_bind (ev_sim_u1 hw) (fun _ => ev_sim_pure _) : ev_sim w b pc (ev_FI.1 0 57) (ev_FI.1 pc 57))
theorem ev_a58 : ev_PI w b pc 58 := fun hw => (ev_sim_bind (ev_sim_u1 hw) (fun _ => ev_sim_pure _) : ev_sim w b pc (ev_FI.1 0 58) (ev_FI.1 pc 58))
theorem ev_a59 : ev_PI w b pc 59 := fun hw => (ev_sim_pure _ : ev_sim w b pc (ev_FI.1 0 59) (ev_FI.1 pc 59))
theorem ev_a60 : ev_PI w b pc 60 := fun hw => (ev_sim_pure _ : ev_sim w b pc (ev_FI.1 0 60) (ev_FI.1 pc 60))
theorem ev_a61 : ev_PI w b pc 61 := fun hw => (ev_sim_pure _ : ev_sim w b pc (ev_FI.1 0 61) (ev_FI.1 pc 61))
theorem ev_a62 : ev_PI w b pc 62 := fun hw => (ev_sim_pure _ : ev_sim w b pc (ev_FI.1 0 62) (ev_FI.1 pc 62))
theorem ev_a63 : ev_PI w b pc 63 := fun hw => (ev_sim_pure _ : ev_sim w b pc (ev_FI.1 0 63) (ev_FI.1 pc 63))
theorem ev_a64 : ev_PI w b pc 64 := fun hw => (ev_sim_pure _ : ev_sim w b pc (ev_FI.1 0 64) (ev_FI.1 pc 64))
theorem ev_a65 : ev_PI w b pc 65 := fun hw => (ev_sim_pure _ : ev_sim w b pc (ev_FI.1 0 65) (ev_FI.1 pc 65))
theorem ev_a66 : ev_PI w b pc 66 := fun hw => (ev_sim_pure _ : ev_sim w b pc (ev_FI.1 0 66) (ev_FI.1 pc 66))
theorem ev_a67 : ev_PI w b pc 67 := fun hw => (ev_sim_pure _ : ev_sim w b pc (ev_FI.1 0 67) (ev_FI.1 pc 67))
theorem ev_a68 : ev_PI w b pc 68 := fun hw => (ev_sim_pure _ : ev_sim w b pc (ev_FI.1 0 68) (ev_FI.1 pc 68))
theorem ev_a69 : ev_PI w b pc 69 := fun hw => (ev_sim_pure _ : ev_sim w b pc (ev_FI.1 0 69) (ev_FI.1 pc 69))
theorem ev_a70 : ev_PI w b pc 70 := fun hw => (ev_sim_pure _ : ev_sim w b pc (ev_FI.1 0 70) (ev_FI.1 pc 70))
theorem ev_a71 : ev_PI w b pc 71 := fun hw => (ev_sim_pure _ : ev_sim w b pc (ev_FI.1 0 71) (ev_FI.1 pc 71))
theorem ev_a72 : ev_PI w b pc 72 := fun hw => (ev_sim_pure _ : ev_sim w b pc (ev_FI.1 0 72) (ev_FI.1 pc 72))
theorem ev_a73 : ev_PI w b pc 73 := fun hw => (ev_sim_pure _ : ev_sim w b pc (ev_FI.1 0 73) (ev_FI.1 pc 73))
theorem ev_a74 : ev_PI w b pc 74 := fun hw => (ev_sim_pure _ : ev_sim w b pc (ev_FI.1 0 74) (ev_FI.1 pc 74))
theorem ev_a75 : ev_PI w b pc 75 := fun hw => (ev_sim_pure _ : ev_sim w b pc (ev_FI.1 0 75) (ev_FI.1 pc 75))
theorem ev_a76 : ev_PI w b pc 76 := fun hw => (ev_sim_pure _ : ev_sim w b pc (ev_FI.1 0 76) (ev_FI.1 pc 76))
theorem ev_a77 : ev_PI w b pc 77 := fun hw => (ev_sim_pure _ : ev_sim w b pc (ev_FI.1 0 77) (ev_FI.1 pc 77))
theorem ev_a78 : ev_PI w b pc 78 := fun hw => (ev_sim_pure _ : ev_sim w b pc (ev_FI.1 0 78) (ev_FI.1 pc 78))
theorem ev_a79 : ev_PI w b pc 79 := fun hw => (ev_sim_pure _ : ev_sim w b pc (ev_FI.1 0 79) (ev_FI.1 pc 79))
theorem ev_a80 : ev_PI w b pc 80 := fun hw => (ev_sim_pure _ : ev_sim w b pc (ev_FI.1 0 80) (ev_FI.1 pc 80))
theorem ev_a81 : ev_PI w b pc 81 := fun hw => (ev_sim_pure _ : ev_sim w b pc (ev_FI.1 0 81) (ev_FI.1 pc 81))
theorem ev_a82 : ev_PI w b pc 82 := fun hw => (ev_sim_pure _ : ev_sim w b pc (ev_FI.1 0 82) (ev_FI.1 pc 82))
theorem ev_a83 : ev_PI w b pc 83 := fun hw => (ev_sim_pure _ : ev_sim w b pc (ev_FI.1 0 83) (ev_FI.1 pc 83))
theorem ev_a84 : ev_PI w b pc 84 := fun hw => (ev_sim_pure _ : ev_sim w b pc (ev_FI.1 0 84) (ev_FI.1 pc 84))
theorem ev_a85 : ev_PI w b pc 85 := fun hw => (ev_sim_pure _ : ev_sim w b pc (ev_FI.1 0 85) (ev_FI.1 pc 85))
theorem ev_a86 : ev_PI w b pc 86 := fun hw => (ev_sim_pure _ : ev_sim w b pc (ev_FI.1 0 86) (ev_FI.1 pc 86))
theorem ev_a87 : ev_PI w b pc 87 := fun hw => (ev_sim_pure _ : ev_sim w b pc (ev_FI.1 0 87) (ev_FI.1 pc 87))
theorem ev_a88 : ev_PI w b pc 88 := fun hw => (ev_sim_pure _ : ev_sim w b pc (ev_FI.1 0 88) (ev_FI.1 pc 88))
theorem ev_a89 : ev_PI w b pc 89 := fun hw => (ev_sim_pure _ : ev_sim w b pc (ev_FI.1 0 89) (ev_FI.1 pc 89))
theorem ev_a90 : ev_PI w b pc 90 := fun hw => (ev_sim_pure _ : ev_sim w b pc (ev_FI.1 0 90) (ev_FI.1 pc 90))
theorem ev_a91 : ev_PI w b pc 91 := fun hw => (ev_sim_pure _ : ev_sim w b pc (ev_FI.1 0 91) (ev_FI.1 pc 91))
theorem ev_a92 : ev_PI w b pc 92 := fun hw => (ev_sim_pure _ : ev_sim w b pc (ev_FI.1 0 92) (ev_FI.1 pc 92))
theorem ev_a93 : ev_PI w b pc 93 := fun hw => (ev_sim_pure _ : ev_sim w b pc (ev_FI.1 0 93) (ev_FI.1 pc 93))
theorem ev_a94 : ev_PI w b pc 94 := fun hw => (ev_sim_pure _ : ev_sim w b pc (ev_FI.1 0 94) (ev_FI.1 pc 94))
theorem ev_a95 : ev_PI w b pc 95 := fun hw => (ev_sim_pure _ : ev_sim w b pc (ev_FI.1 0 95) (ev_FI.1 pc 95))
theorem ev_a96 : ev_PI w b pc 96 := fun hw => (ev_sim_pure _ : ev_sim w b pc (ev_FI.1 0 96) (ev_FI.1 pc 96))
theorem ev_a97 : ev_PI w b pc 97 := fun hw => (ev_sim_pure _ : ev_sim w b pc (ev_FI.1 0 97) (ev_FI.1 pc 97))
theorem ev_a98 : ev_PI w b pc 98 := fun hw => (ev_sim_pure _ : ev_sim w b pc (ev_FI.1 0 98) (ev_FI.1 pc 98))
theorem ev_a99 : ev_PI w b pc 99 := fun hw => (ev_sim_pure _ : ev_sim w b pc (ev_FI.1 0 99) (ev_FI.1 pc 99))
theorem ev_a100 : ev_PI w b pc 100 := fun hw => (ev_sim_pure _ : ev_sim w b pc (ev_FI.1 0 100) (ev_FI.1 pc 100))
theorem ev_a101 : ev_PI w b pc 101 := fun hw => (ev_sim_pure _ : ev_sim w b pc (ev_FI.1 0 101) (ev_FI.1 pc 101))
theorem ev_a102 : ev_PI w b pc 102 := fun hw => (ev_sim_pure _ : ev_sim w b pc (ev_FI.1 0 102) (ev_FI.1 pc 102))
theorem ev_a103 : ev_PI w b pc 103 := fun hw => (ev_sim_pure _ : ev_sim w b pc (ev_FI.1 0 103) (ev_FI.1 pc 103))
theorem ev_a104 : ev_PI w b pc 104 := fun hw => (ev_sim_pure _ : ev_sim w b pc (ev_FI.1 0 104) (ev_FI.1 pc 104))
theorem ev_a105 : ev_PI w b pc 105 := fun hw => (ev_sim_pure _ : ev_sim w b pc (ev_FI.1 0 105) (ev_FI.1 pc 105))
theorem ev_a106 : ev_PI w b pc 106 := fun hw => (ev_sim_pure _ : ev_sim w b pc (ev_FI.1 0 106) (ev_FI.1 pc 106))
theorem ev_a107 : ev_PI w b pc 107 := fun hw => (ev_sim_pure _ : ev_sim w b pc (ev_FI.1 0 107) (ev_FI.1 pc 107))
theorem ev_a108 : ev_PI w b pc 108 := fun hw => (ev_sim_pure _ : ev_sim w b pc (ev_FI.1 0 108) (ev_FI.1 pc 108))
theorem ev_a109 : ev_PI w b pc 109 := fun hw => (ev_sim_pure _ : ev_sim w b pc (ev_FI.1 0 109) (ev_FI.1 pc 109))
theorem ev_a110 : ev_PI w b pc 110 := fun hw => (ev_sim_pure _ : ev_sim w b pc (ev_FI.1 0 110) (ev_FI.1 pc 110))
theorem ev_a111 : ev_PI w b pc 111 := fun hw => (ev_sim_pure _ : ev_sim w b pc (ev_FI.1 0 111) (ev_FI.1 pc 111))
theorem ev_a112 : ev_PI w b pc 112 := fun hw => (ev_sim_pure _ : ev_sim w b pc (ev_FI.1 0 112) (ev_FI.1 pc 112))
theorem ev_a113 : ev_PI w b pc 113 := fun hw => (ev_sim_pure _ : ev_sim w b pc (ev_FI.1 0 113) (ev_FI.1 pc 113))
theorem ev_a114 : ev_PI w b pc 114 := fun hw => (ev_sim_pure _ : ev_sim w b pc (ev_FI.1 0 114) (ev_FI.1 pc 114))
theorem ev_a115 : ev_PI w b pc 115 := fun hw => (ev_sim_pure _ : ev_sim w b pc (ev_FI.1 0 115) (ev_FI.1 pc 115))
theorem ev_a116 : ev_PI w b pc 116 := fun hw => (ev_sim_pure _ : ev_sim w b pc (ev_FI.1 0 116) (ev_FI.1 pc 116))
theorem ev_a117 : ev_PI w b pc 117 := fun hw => (ev_sim_pure _ : ev_sim w b pc (ev_FI.1 0 117) (ev_FI.1 pc 117))
theorem ev_a118 : ev_PI w b pc 118 := fun hw => (ev_sim_pure _ : ev_sim w b pc (ev_FI.1 0 118) (ev_FI.1 pc 118))
theorem ev_a119 : ev_PI w b pc 119 := fun hw => (ev_sim_pure _ : ev_sim w b pc (ev_FI.1 0 119) (ev_FI.1 pc 119))
theorem ev_a120 : ev_PI w b pc 120 := fun hw => (ev_sim_pure _ : ev_sim w b pc (ev_FI.1 0 120) (ev_FI.1 pc 120))
theorem ev_a121 : ev_PI w b pc 121 := fun hw => (ev_sim_pure _ : ev_sim w b pc (ev_FI.1 0 121) (ev_FI.1 pc 121))
theorem ev_a122 : ev_PI w b pc 122 := fun hw => (ev_sim_pure _ : ev_sim w b pc (ev_FI.1 0 122) (ev_FI.1 pc 122))
theorem ev_a123 : ev_PI w b pc 123 := fun hw => (ev_sim_pure _ : ev_sim w b pc (ev_FI.1 0 123) (ev_FI.1 pc 123))
theorem ev_a124 : ev_PI w b pc 124 := fun hw => (ev_sim_pure _ : ev_sim w b pc (ev_FI.1 0 124) (ev_FI.1 pc 124))
theorem ev_a125 : ev_PI w b pc 125 := fun hw => (ev_sim_pure _ : ev_sim w b pc (ev_FI.1 0 125) (ev_FI.1 pc 125))
theorem ev_a126 : ev_PI w b pc 126 := fun hw => (ev_sim_pure _ : ev_sim w b pc (ev_FI.1 0 126) (ev_FI.1 pc 126))
theorem ev_a127 : ev_PI w b pc 127 := fun hw => (ev_sim_pure _ : ev_sim w b pc (ev_FI.1 0 127) (ev_FI.1 pc 127))
theorem ev_a128 : ev_PI w b pc 128 := fun hw => (ev_sim_pure _ : ev_sim w b pc (ev_FI.1 0 128) (ev_FI.1 pc 128))
theorem ev_a129 : ev_PI w b pc 129 := fun hw => (ev_sim_pure _ : ev_sim w b pc (ev_FI.1 0 129) (ev_FI.1 pc 129))
theorem ev_a130 : ev_PI w b pc 130 := fun hw => (ev_sim_pure _ : ev_sim w b pc (ev_FI.1 0 130) (ev_FI.1 pc 130))
theorem ev_a131 : ev_PI w b pc 131 := fun hw => (ev_sim_pure _ : ev_sim w b pc (ev_FI.1 0 131) (ev_FI.1 pc 131))
theorem ev_a132 : ev_PI w b pc 132 := fun hw => (ev_sim_bind (ev_sim_u1 hw) (fun _ => ev_sim_bind (ev_sim_s1 hw) fun _ => ev_sim_pure _) : ev_sim w b pc (ev_FI.1 0 132) (ev_FI.1 pc 132))
theorem ev_a133 : ev_PI w b pc 133 := fun hw => (ev_sim_pure _ : ev_sim w b pc (ev_FI.1 0 133) (ev_FI.1 pc 133))
theorem ev_a134 : ev_PI w b pc 134 := fun hw => (ev_sim_pure _ : ev_sim w b pc (ev_FI.1 0 134) (ev_FI.1 pc 134))
theorem ev_a135 : ev_PI w b pc 135 := fun hw => (ev_sim_pure _ : ev_sim w b pc (ev_FI.1 0 135) (ev_FI.1 pc 135))
theorem ev_a136 : ev_PI w b pc 136 := fun hw => (ev_sim_pure _ : ev_sim w b pc (ev_FI.1 0 136) (ev_FI.1 pc 136))
theorem ev_a137 : ev_PI w b pc 137 := fun hw => (ev_sim_pure _ : ev_sim w b pc (ev_FI.1 0 137) (ev_FI.1 pc 137))
theorem ev_a138 : ev_PI w b pc 138 := fun hw => (ev_sim_pure _ : ev_sim w b pc (ev_FI.1 0 138) (ev_FI.1 pc 138))
theorem ev_a139 : ev_PI w b pc 139 := fun hw => (ev_sim_pure _ : ev_sim w b pc (ev_FI.1 0 139) (ev_FI.1 pc 139))
theorem ev_a140 : ev_PI w b pc 140 := fun hw => (ev_sim_pure _ : ev_sim w b pc (ev_FI.1 0 140) (ev_FI.1 pc 140))
theorem ev_a141 : ev_PI w b pc 141 := fun hw => (ev_sim_pure _ : ev_sim w b pc (ev_FI.1 0 141) (ev_FI.1 pc 141))
theorem ev_a142 : ev_PI w b pc 142 := fun hw => (ev_sim_pure _ : ev_sim w b pc (ev_FI.1 0 142) (ev_FI.1 pc 142))
theorem ev_a143 : ev_PI w b pc 143 := fun hw => (ev_sim_pure _ : ev_sim w b pc (ev_FI.1 0 143) (ev_FI.1 pc 143))
theorem ev_a144 : ev_PI w b pc 144 := fun hw => (ev_sim_pure _ : ev_sim w b pc (ev_FI.1 0 144) (ev_FI.1 pc 144))
theorem ev_a145 : ev_PI w b pc 145 := fun hw => (ev_sim_pure _ : ev_sim w b pc (ev_FI.1 0 145) (ev_FI.1 pc 145))
theorem ev_a146 : ev_PI w b pc 146 := fun hw => (ev_sim_pure _ : ev_sim w b pc (ev_FI.1 0 146) (ev_FI.1 pc 146))
theorem ev_a147 : ev_PI w b pc 147 := fun hw => (ev_sim_pure _ : ev_sim w b pc (ev_FI.1 0 147) (ev_FI.1 pc 147))
theorem ev_a148 : ev_PI w b pc 148 := fun hw => (ev_sim_pure _ : ev_sim w b pc (ev_FI.1 0 148) (ev_FI.1 pc 148))
theorem ev_a149 : ev_PI w b pc 149 := fun hw => (ev_sim_pure _ : ev_sim w b pc (ev_FI.1 0 149) (ev_FI.1 pc 149))
theorem ev_a150 : ev_PI w b pc 150 := fun hw => (ev_sim_pure _ : ev_sim w b pc (ev_FI.1 0 150) (ev_FI.1 pc 150))
theorem ev_a151 : ev_PI w b pc 151 := fun hw => (ev_sim_pure _ : ev_sim w b pc (ev_FI.1 0 151) (ev_FI.1 pc 151))
theorem ev_a152 : ev_PI w b pc 152 := fun hw => (ev_sim_pure _ : ev_sim w b pc (ev_FI.1 0 152) (ev_FI.1 pc 152))
theorem ev_a153 : ev_PI w b pc 153 := fun hw => (ev_sim_bind (ev_sim_s2 hw) (fun _ => ev_sim_pure _) : ev_sim w b pc (ev_FI.1 0 153) (ev_FI.1 pc 153))
theorem ev_a154 : ev_PI w b pc 154 := fun hw => (ev_sim_bind (ev_sim_s2 hw) (fun _ => ev_sim_pure _) : ev_sim w b pc (ev_FI.1 0 154) (ev_FI.1 pc 154))
theorem ev_a155 : ev_PI w b pc 155 := fun hw => (ev_sim_bind (ev_sim_s2 hw) (fun _ => ev_sim_pure _) : ev_sim w b pc (ev_FI.1 0 155) (ev_FI.1 pc 155))
theorem ev_a156 : ev_PI w b pc 156 := fun hw => (ev_sim_bind (ev_sim_s2 hw) (fun _ => ev_sim_pure _) : ev_sim w b pc (ev_FI.1 0 156) (ev_FI.1 pc 156))
theorem ev_a157 : ev_PI w b pc 157 := fun hw => (ev_sim_bind (ev_sim_s2 hw) (fun _ => ev_sim_pure _) : ev_sim w b pc (ev_FI.1 0 157) (ev_FI.1 pc 157))
theorem ev_a158 : ev_PI w b pc 158 := fun hw => (ev_sim_bind (ev_sim_s2 hw) (fun _ => ev_sim_pure _) : ev_sim w b pc (ev_FI.1 0 158) (ev_FI.1 pc 158))
theorem ev_a159 : ev_PI w b pc 159 := fun hw => (ev_sim_bind (ev_sim_s2 hw) (fun _ => ev_sim_pure _) : ev_sim w b pc (ev_FI.1 0 159) (ev_FI.1 pc 159))
theorem ev_a160 : ev_PI w b pc 160 := fun hw => (ev_sim_bind (ev_sim_s2 hw) (fun _ => ev_sim_pure _) : ev_sim w b pc (ev_FI.1 0 160) (ev_FI.1 pc 160))
theorem ev_a161 : ev_PI w b pc 161 := fun hw => (ev_sim_bind (ev_sim_s2 hw) (fun _ => ev_sim_pure _) : ev_sim w b pc (ev_FI.1 0 161) (ev_FI.1 pc 161))
theorem ev_a162 : ev_PI w b pc 162 := fun hw => (ev_sim_bind (ev_sim_s2 hw) (fun _ => ev_sim_pure _) : ev_sim w b pc (ev_FI.1 0 162) (ev_FI.1 pc 162))
theorem ev_a163 : ev_PI w b pc 163 := fun hw => (ev_sim_bind (ev_sim_s2 hw) (fun _ => ev_sim_pure _) : ev_sim w b pc (ev_FI.1 0 163) (ev_FI.1 pc 163))
theorem ev_a164 : ev_PI w b pc 164 := fun hw => (ev_sim_bind (ev_sim_s2 hw) (fun _ => ev_sim_pure _) : ev_sim w b pc (ev_FI.1 0 164) (ev_FI.1 pc 164))
theorem ev_a165 : ev_PI w b pc 165 := fun hw => (ev_sim_bind (ev_sim_s2 hw) (fun _ => ev_sim_pure _) : ev_sim w b pc (ev_FI.1 0 165) (ev_FI.1 pc 165))
theorem ev_a166 : ev_PI w b pc 166 := fun hw => (ev_sim_bind (ev_sim_s2 hw) (fun _ => ev_sim_pure _) : ev_sim w b pc (ev_FI.1 0 166) (ev_FI.1 pc 166))
theorem ev_a167 : ev_PI w b pc 167 := fun hw => (ev_sim_bind (ev_sim_s2 hw) (fun _ => ev_sim_pure _) : ev_sim w b pc (ev_FI.1 0 167) (ev_FI.1 pc 167))
theorem ev_a168 : ev_PI w b pc 168 := fun hw => (ev_sim_bind (ev_sim_s2 hw) (fun _ => ev_sim_pure _) : ev_sim w b pc (ev_FI.1 0 168) (ev_FI.1 pc 168))
theorem ev_a169 : ev_PI w b pc 169 := fun hw => (ev_sim_bind (ev_sim_u1 hw) (fun _ => ev_sim_pure _) : ev_sim w b pc (ev_FI.1 0 169) (ev_FI.1 pc 169))
theorem ev_a172 : ev_PI w b pc 172 := fun hw => (ev_sim_pure _ : ev_sim w b pc (ev_FI.1 0 172) (ev_FI.1 pc 172))
theorem ev_a173 : ev_PI w b pc 173 := fun hw => (ev_sim_pure _ : ev_sim w b pc (ev_FI.1 0 173) (ev_FI.1 pc 173))
theorem ev_a174 : ev_PI w b pc 174 := fun hw => (ev_sim_pure _ : ev_sim w b pc (ev_FI.1 0 174) (ev_FI.1 pc 174))
theorem ev_a175 : ev_PI w b pc 175 := fun hw => (ev_sim_pure _ : ev_sim w b pc (ev_FI.1 0 175) (ev_FI.1 pc 175))
theorem ev_a176 : ev_PI w b pc 176 := fun hw => (ev_sim_pure _ : ev_sim w b pc (ev_FI.1 0 176) (ev_FI.1 pc 176))
theorem ev_a177 : ev_PI w b pc 177 := fun hw => (ev_sim_pure _ : ev_sim w b pc (ev_FI.1 0 177) (ev_FI.1 pc 177))
theorem ev_a178 : ev_PI w b pc 178 := fun hw => (ev_sim_bind (ev_sim_u2 hw) (fun _ => ev_sim_pure _) : ev_sim w b pc (ev_FI.1 0 178) (ev_FI.1 pc 178))
theorem ev_a179 : ev_PI w b pc 179 := fun hw => (ev_sim_bind (ev_sim_u2 hw) (fun _ => ev_sim_pure _) : ev_sim w b pc (ev_FI.1 0 179) (ev_FI.1 pc 179))
theorem ev_a180 : ev_PI w b pc 180 := fun hw => (ev_sim_bind (ev_sim_u2 hw) (fun _ => ev_sim_pure _) : ev_sim w b pc (ev_FI.1 0 180) (ev_FI.1 pc 180))
theorem ev_a181 : ev_PI w b pc 181 := fun hw => (ev_sim_bind (ev_sim_u2 hw) (fun _ => ev_sim_pure _) : ev_sim w b pc (ev_FI.1 0 181) (ev_FI.1 pc 181))
theorem ev_a182 : ev_PI w b pc 182 := fun hw => (ev_sim_bind (ev_sim_u2 hw) (fun _ => ev_sim_pure _) : ev_sim w b pc (ev_FI.1 0 182) (ev_FI.1 pc 182))
theorem ev_a183 : ev_PI w b pc 183 := fun hw => (ev_sim_bind (ev_sim_u2 hw) (fun _ => ev_sim_pure _) : ev_sim w b pc (ev_FI.1 0 183) (ev_FI.1 pc 183))
theorem ev_a184 : ev_PI w b pc 184 := fun hw => (ev_sim_bind (ev_sim_u2 hw) (fun _ => ev_sim_pure _) : ev_sim w b pc (ev_FI.1 0 184) (ev_FI.1 pc 184))
theorem ev_a187 : ev_PI w b pc 187 := fun hw => (ev_sim_bind (ev_sim_u2 hw) (fun _ => ev_sim_pure _) : ev_sim w b pc (ev_FI.1 0 187) (ev_FI.1 pc 187))
theorem ev_a188 : ev_PI w b pc 188 := fun hw => (ev_sim_newarray hw : ev_sim w b pc (ev_FI.1 0 188) (ev_FI.1 pc 188))
theorem ev_a189 : ev_PI w b pc 189 := fun hw => (ev_sim_bind (ev_sim_u2 hw) (fun _ => ev_sim_pure _) : ev_sim w b pc (ev_FI.1 0 189) (ev_FI.1 pc 189))
theorem ev_a190 : ev_PI w b pc 190 := fun hw => (ev_sim_pure _ : ev_sim w b pc (ev_FI.1 0 190) (ev_FI.1 pc 190))
theorem ev_a191 : ev_PI w b pc 191 := fun hw => (ev_sim_pure _ : ev_sim w b pc (ev_FI.1 0 191) (ev_FI.1 pc 191))
theorem ev_a192 : ev_PI w b pc 192 := fun hw => (ev_sim_bind (ev_sim_u2 hw) (fun _ => ev_sim_pure _) : ev_sim w b pc (ev_FI.1 0 192) (ev_FI.1 pc 192))
theorem ev_a193 : ev_PI w b pc 193 := fun hw => (ev_sim_bind (ev_sim_u2 hw) (fun _ => ev_sim_pure _) : ev_sim w b pc (ev_FI.1 0 193) (ev_FI.1 pc 193))
theorem ev_a194 : ev_PI w b pc 194 := fun hw => (ev_sim_pure _ : ev_sim w b pc (ev_FI.1 0 194) (ev_FI.1 pc 194))
theorem ev_a195 : ev_PI w b pc 195 := fun hw => (ev_sim_pure _ : ev_sim w b pc (ev_FI.1 0 195) (ev_FI.1 pc 195))
theorem ev_a196 : ev_PI w b pc 196 := fun hw => (ev_sim_wide hw : ev_sim w b pc (ev_FI.1 0 196) (ev_FI.1 pc 196))
theorem ev_a197 : ev_PI w b pc 197 := fun hw => (ev_sim_multi hw : ev_sim w b pc (ev_FI.1 0 197) (ev_FI.1 pc 197))
theorem ev_a198 : ev_PI w b pc 198 := fun hw => (ev_sim_bind (ev_sim_s2 hw) (fun _ => ev_sim_pure _) : ev_sim w b pc (ev_FI.1 0 198) (ev_FI.1 pc 198))
theorem ev_a199 : ev_PI w b pc 199 := fun hw => (ev_sim_bind (ev_sim_s2 hw) (fun _ => ev_sim_pure _) : ev_sim w b pc (ev_FI.1 0 199) (ev_FI.1 pc 199))
theorem ev_a200 : ev_PI w b pc 200 := fun hw => (ev_sim_bind (ev_sim_s4 hw) (fun _ => ev_sim_pure _) : ev_sim w b pc (ev_FI.1 0 200) (ev_FI.1 pc 200))
theorem ev_a201 : ev_PI w b pc 201 := fun hw => (ev_sim_bind (ev_sim_s4 hw) (fun _ => ev_sim_pure _) : ev_sim w b pc (ev_FI.1 0 201) (ev_FI.1 pc 201))
theorem ev_b0 (x : Nat) (h1 : 0 ≤ x) (h2 : x < 16) (hk : ev_ok1 x = true) : ev_PI w b pc x := by
  by_cases e : x = 0
  · rw [e]; exact ev_a0
  replace h1 : 1 ≤ x := by clear hk; omega
  clear e
  by_cases e : x = 1
  · rw [e]; exact ev_a1
  replace h1 : 2 ≤ x := by clear hk; omega
  clear e
  by_cases e : x = 2
  · rw [e]; exact ev_a2
  replace h1 : 3 ≤ x := by clear hk; omega
  clear e
  by_cases e : x = 3
  · rw [e]; exact ev_a3
  replace h1 : 4 ≤ x := by clear hk; omega
  clear e
  by_cases e : x = 4
  · rw [e]; exact ev_a4
  replace h1 : 5 ≤ x := by clear hk; omega
  clear e
  by_cases e : x = 5
  · rw [e]; exact ev_a5
  replace h1 : 6 ≤ x := by clear hk; omega
  clear e
  by_cases e : x = 6
  · rw [e]; exact ev_a6
  replace h1 : 7 ≤ x := by clear hk; omega
  clear e
  by_cases e : x = 7
  · rw [e]; exact ev_a7
  replace h1 : 8 ≤ x := by clear hk; omega
  clear e
  by_cases e : x = 8
  · rw [e]; exact ev_a8
  replace h1 : 9 ≤ x := by clear hk; omega
  clear e
  by_cases e : x = 9
  · rw [e]; exact ev_a9
  replace h1 : 10 ≤ x := by clear hk; omega
  clear e
  by_cases e : x = 10
  · rw [e]; exact ev_a10
  replace h1 : 11 ≤ x := by clear hk; omega
  clear e
  by_cases e : x = 11
  · rw [e]; exact ev_a11
  replace h1 : 12 ≤ x := by clear hk; omega
  clear e
  by_cases e : x = 12
  · rw [e]; exact ev_a12
  replace h1 : 13 ≤ x := by clear hk; omega
  clear e
  by_cases e : x = 13
  · rw [e]; exact ev_a13
  replace h1 : 14 ≤ x := by clear hk; omega
  clear e
  by_cases e : x = 14
  · rw [e]; exact ev_a14
  replace h1 : 15 ≤ x := by clear hk; omega
  clear e
  by_cases e : x = 15
  · rw [e]; exact ev_a15
  replace h1 : 16 ≤ x := by clear hk; omega
  clear e
  clear hk; omega
theorem ev_b1 (x : Nat) (h1 : 16 ≤ x) (h2 : x < 32) (hk : ev_ok1 x = true) : ev_PI w b pc x := by
  by_cases e : x = 16
  · rw [e]; exact ev_a16
  replace h1 : 17 ≤ x := by clear hk; omega
  clear e
  by_cases e : x = 17
  · rw [e]; exact ev_a17
  replace h1 : 18 ≤ x := by clear hk; omega
  clear e
  by_cases e : x = 18
  · rw [e]; exact ev_a18
  replace h1 : 19 ≤ x := by clear hk; omega
  clear e
  by_cases e : x = 19
  · rw [e]; exact ev_a19
  replace h1 : 20 ≤ x := by clear hk; omega
  clear e
  by_cases e : x = 20
  · rw [e]; exact ev_a20
  replace h1 : 21 ≤ x := by clear hk; omega
  clear e
  by_cases e : x = 21
  · rw [e]; exact ev_a21
  replace h1 : 22 ≤ x := by clear hk; omega
  clear e
  by_cases e : x = 22
  · rw [e]; exact ev_a22
  replace h1 : 23 ≤ x := by clear hk; omega
  clear e
  by_cases e : x = 23
  · rw [e]; exact ev_a23
  replace h1 : 24 ≤ x := by clear hk; omega
  clear e
  by_cases e : x = 24
  · rw [e]; exact ev_a24
  replace h1 : 25 ≤ x := by clear hk; omega
  clear e
  by_cases e : x = 25
  · rw [e]; exact ev_a25
  replace h1 : 26 ≤ x := by clear hk; omega
  clear e
  by_cases e : x = 26
  · rw [e]; exact ev_a26
  replace h1 : 27 ≤ x := by clear hk; omega
  clear e
  by_cases e : x = 27
  · rw [e]; exact ev_a27
  replace h1 : 28 ≤ x := by clear hk; omega
  clear e
  by_cases e : x = 28
  · rw [e]; exact ev_a28
  replace h1 : 29 ≤ x := by clear hk; omega
  clear e
  by_cases e : x = 29
  · rw [e]; exact ev_a29
  replace h1 : 30 ≤ x := by clear hk; omega
  clear e
  by_cases e : x = 30
  · rw [e]; exact ev_a30
  replace h1 : 31 ≤ x := by clear hk; omega
  clear e
  by_cases e : x = 31
  · rw [e]; exact ev_a31
  replace h1 : 32 ≤ x := by clear hk; omega
  clear e
  clear hk; omega
theorem ev_b2 (x : Nat) (h1 : 32 ≤ x) (h2 : x < 48) (hk : ev_ok1 x = true) : ev_PI w b pc x := by
  by_cases e : x = 32
  · rw [e]; exact ev_a32
  replace h1 : 33 ≤ x := by clear hk; omega
  clear e
  by_cases e : x = 33
  · rw [e]; exact ev_a33
  replace h1 : 34 ≤ x := by clear hk; omega
  clear e
  by_cases e : x = 34
  · rw [e]; exact ev_a34
  replace h1 : 35 ≤ x := by clear hk; omega
  clear e
  by_cases e : x = 35
  · rw [e]; exact ev_a35
  replace h1 : 36 ≤ x := by clear hk; omega
  clear e
  by_cases e : x = 36
  · rw [e]; exact ev_a36
  replace h1 : 37 ≤ x := by clear hk; omega
  clear e
  by_cases e : x = 37
  · rw [e]; exact ev_a37
  replace h1 : 38 ≤ x := by clear hk; omega
  clear e
  by_cases e : x = 38
  · rw [e]; exact ev_a38
  replace h1 : 39 ≤ x := by clear hk; omega
  clear e
  by_cases e : x = 39
  · rw [e]; exact ev_a39
  replace h1 : 40 ≤ x := by clear hk; omega
  clear e
  by_cases e : x = 40
  · rw [e]; exact ev_a40
  replace h1 : 41 ≤ x := by clear hk; omega
  clear e
  by_cases e : x = 41
  · rw [e]; exact ev_a41
  replace h1 : 42 ≤ x := by clear hk; omega
  clear e
  by_cases e : x = 42
  · rw [e]; exact ev_a42
  replace h1 : 43 ≤ x := by clear hk; omega
  clear e
  by_cases e : x = 43
  · rw [e]; exact ev_a43
  replace h1 : 44 ≤ x := by clear hk; omega
  clear e
  by_cases e : x = 44
  · rw [e]; exact ev_a44
  replace h1 : 45 ≤ x := by clear hk; omega
  clear e
  by_cases e : x = 45
  · rw [e]; exact ev_a45
  replace h1 : 46 ≤ x := by clear hk; omega
  clear e
  by_cases e : x = 46
  · rw [e]; exact ev_a46
  replace h1 : 47 ≤ x := by clear hk; omega
  clear e
  by_cases e : x = 47
  · rw [e]; exact ev_a47
  replace h1 : 48 ≤ x := by clear hk; omega
  clear e
  clear hk; omega
theorem ev_b3 (x : Nat) (h1 : 48 ≤ x) (h2 : x < 64) (hk : ev_ok1 x = true) : ev_PI w b pc x := by
  by_cases e : x = 48
  · rw [e]; exact ev_a48
  replace h1 : 49 ≤ x := by clear hk; omega
  clear e
  by_cases e : x = 49
  · rw [e]; exact ev_a49
  replace h1 : 50 ≤ x := by clear hk; omega
  clear e
  by_cases e : x = 50
  · rw [e]; exact ev_a50
  replace h1 : 51 ≤ x := by clear hk; omega
  clear e
  by_cases e : x = 51
  · rw [e]; exact ev_a51
  replace h1 : 52 ≤ x := by clear hk; omega
  clear e
  by_cases e : x = 52
  · rw [e]; exact ev_a52
  replace h1 : 53 ≤ x := by clear hk; omega
  clear e
  by_cases e : x = 53
  · rw [e]; exact ev_a53
  replace h1 : 54 ≤ x := by clear hk; omega
  clear e
  by_cases e : x = 54
  · rw [e]; exact ev_a54
  replace h1 : 55 ≤ x := by clear hk; omega
  clear e
  by_cases e : x = 55
  · rw [e]; exact ev_a55
  replace h1 : 56 ≤ x := by clear hk; omega
  clear e
  by_cases e : x = 56
  · rw [e]; exact ev_a56
  replace h1 : 57 ≤ x := by clear hk; omega
  clear e
  by_cases e : x = 57
  · rw [e]; exact ev_a57
  replace h1 : 58 ≤ x := by clear hk; omega
  clear e
  by_cases e : x = 58
  · rw [e]; exact ev_a58
  replace h1 : 59 ≤ x := by clear hk; omega
  clear e
  by_cases e : x = 59
  · rw [e]; exact ev_a59
  replace h1 : 60 ≤ x := by clear hk; omega
  clear e
  by_cases e : x = 60
  · rw [e]; exact ev_a60
  replace h1 : 61 ≤ x := by clear hk; omega
  clear e
  by_cases e : x = 61
  · rw [e]; exact ev_a61
  replace h1 : 62 ≤ x := by clear hk; omega
  clear e
  by_cases e : x = 62
  · rw [e]; exact ev_a62
  replace h1 : 63 ≤ x := by clear hk; omega
  clear e
  by_cases e : x = 63
  · rw [e]; exact ev_a63
  replace h1 : 64 ≤ x := by clear hk; omega
  clear e
  clear hk; omega
theorem ev_b4 (x : Nat) (h1 : 64 ≤ x) (h2 : x < 80) (hk : ev_ok1 x = true) : ev_PI w b pc x := by
  by_cases e : x = 64
  · rw [e]; exact ev_a64
  replace h1 : 65 ≤ x := by clear hk; omega
  clear e
  by_cases e : x = 65
  · rw [e]; exact ev_a65
  replace h1 : 66 ≤ x := by clear hk; omega
  clear e
  by_cases e : x = 66
  · rw [e]; exact ev_a66
  replace h1 : 67 ≤ x := by clear hk; omega
  clear e
  by_cases e : x = 67
  · rw [e]; exact ev_a67
  replace h1 : 68 ≤ x := by clear hk; omega
  clear e
  by_cases e : x = 68
  · rw [e]; exact ev_a68
  replace h1 : 69 ≤ x := by clear hk; omega
  clear e
  by_cases e : x = 69
  · rw [e]; exact ev_a69
  replace h1 : 70 ≤ x := by clear hk; omega
  clear e
  by_cases e : x = 70
  · rw [e]; exact ev_a70
  replace h1 : 71 ≤ x := by clear hk; omega
  clear e
  by_cases e : x = 71
  · rw [e]; exact ev_a71
  replace h1 : 72 ≤ x := by clear hk; omega
  clear e
  by_cases e : x = 72
  · rw [e]; exact ev_a72
  replace h1 : 73 ≤ x := by clear hk; omega
  clear e
  by_cases e : x = 73
  · rw [e]; exact ev_a73
  replace h1 : 74 ≤ x := by clear hk; omega
  clear e
  by_cases e : x = 74
  · rw [e]; exact ev_a74
  replace h1 : 75 ≤ x := by clear hk; omega
  clear e
  by_cases e : x = 75
  · rw [e]; exact ev_a75
  replace h1 : 76 ≤ x := by clear hk; omega
  clear e
  by_cases e : x = 76
  · rw [e]; exact ev_a76
  replace h1 : 77 ≤ x := by clear hk; omega
  clear e
  by_cases e : x = 77
  · rw [e]; exact ev_a77
  replace h1 : 78 ≤ x := by clear hk; omega
  clear e
  by_cases e : x = 78
  · rw [e]; exact ev_a78
  replace h1 : 79 ≤ x := by clear hk; omega
  clear e
  by_cases e : x = 79
  · rw [e]; exact ev_a79
  replace h1 : 80 ≤ x := by clear hk; omega
  clear e
  clear hk; omega
theorem ev_b5 (x : Nat) (h1 : 80 ≤ x) (h2 : x < 96) (hk : ev_ok1 x = true) : ev_PI w b pc x := by
  by_cases e : x = 80
  · rw [e]; exact ev_a80
  replace h1 : 81 ≤ x := by clear hk; omega
  clear e
  by_cases e : x = 81
  · rw [e]; exact ev_a81
  replace h1 : 82 ≤ x := by clear hk; omega
  clear e
  by_cases e : x = 82
  · rw [e]; exact ev_a82
  replace h1 : 83 ≤ x := by clear hk; omega
  clear e
  by_cases e : x = 83
  · rw [e]; exact ev_a83
  replace h1 : 84 ≤ x := by clear hk; omega
  clear e
  by_cases e : x = 84
  · rw [e]; exact ev_a84
  replace h1 : 85 ≤ x := by clear hk; omega
  clear e
  by_cases e : x = 85
  · rw [e]; exact ev_a85
  replace h1 : 86 ≤ x := by clear hk; omega
  clear e
  by_cases e : x = 86
  · rw [e]; exact ev_a86
  replace h1 : 87 ≤ x := by clear hk; omega
  clear e
  by_cases e : x = 87
  · rw [e]; exact ev_a87
  replace h1 : 88 ≤ x := by clear hk; omega
  clear e
  by_cases e : x = 88
  · rw [e]; exact ev_a88
  replace h1 : 89 ≤ x := by clear hk; omega
  clear e
  by_cases e : x = 89
  · rw [e]; exact ev_a89
  replace h1 : 90 ≤ x := by clear hk; omega
  clear e
  by_cases e : x = 90
  · rw [e]; exact ev_a90
  replace h1 : 91 ≤ x := by clear hk; omega
  clear e
  by_cases e : x = 91
  · rw [e]; exact ev_a91
  replace h1 : 92 ≤ x := by clear hk; omega
  clear e
  by_cases e : x = 92
  · rw [e]; exact ev_a92
  replace h1 : 93 ≤ x := by clear hk; omega
  clear e
  by_cases e : x = 93
  · rw [e]; exact ev_a93
  replace h1 : 94 ≤ x := by clear hk; omega
  clear e
  by_cases e : x = 94
  · rw [e]; exact ev_a94
  replace h1 : 95 ≤ x := by clear hk; omega
  clear e
  by_cases e : x = 95
  · rw [e]; exact ev_a95
  replace h1 : 96 ≤ x := by clear hk; omega
  clear e
  clear hk; omega
theorem ev_b6 (x : Nat) (h1 : 96 ≤ x) (h2 : x < 112) (hk : ev_ok1 x = true) : ev_PI w b pc x := by
  by_cases e : x = 96
  · rw [e]; exact ev_a96
  replace h1 : 97 ≤ x := by clear hk; omega
  clear e
  by_cases e : x = 97
  · rw [e]; exact ev_a97
  replace h1 : 98 ≤ x := by clear hk; omega
  clear e
  by_cases e : x = 98
  · rw [e]; exact ev_a98
  replace h1 : 99 ≤ x := by clear hk; omega
  clear e
  by_cases e : x = 99
  · rw [e]; exact ev_a99
  replace h1 : 100 ≤ x := by clear hk; omega
  clear e
  by_cases e : x = 100
  · rw [e]; exact ev_a100
  replace h1 : 101 ≤ x := by clear hk; omega
  clear e
  by_cases e : x = 101
  · rw [e]; exact ev_a101
  replace h1 : 102 ≤ x := by clear hk; omega
  clear e
  by_cases e : x = 102
  · rw [e]; exact ev_a102
  replace h1 : 103 ≤ x := by clear hk; omega
  clear e
  by_cases e : x = 103
  · rw [e]; exact ev_a103
  replace h1 : 104 ≤ x := by clear hk; omega
  clear e
  by_cases e : x = 104
  · rw [e]; exact ev_a104
  replace h1 : 105 ≤ x := by clear hk; omega
  clear e
  by_cases e : x = 105
  · rw [e]; exact ev_a105
  replace h1 : 106 ≤ x := by clear hk; omega
  clear e
  by_cases e : x = 106
  · rw [e]; exact ev_a106
  replace h1 : 107 ≤ x := by clear hk; omega
  clear e
  by_cases e : x = 107
  · rw [e]; exact ev_a107
  replace h1 : 108 ≤ x := by clear hk; omega
  clear e
  by_cases e : x = 108
  · rw [e]; exact ev_a108
  replace h1 : 109 ≤ x := by clear hk; omega
  clear e
  by_cases e : x = 109
  · rw [e]; exact ev_a109
  replace h1 : 110 ≤ x := by clear hk; omega
  clear e
  by_cases e : x = 110
  · rw [e]; exact ev_a110
  replace h1 : 111 ≤ x := by clear hk; omega
  clear e
  by_cases e : x = 111
  · rw [e]; exact ev_a111
  replace h1 : 112 ≤ x := by clear hk; omega
  clear e
  clear hk; omega
theorem ev_b7 (x : Nat) (h1 : 112 ≤ x) (h2 : x < 128) (hk : ev_ok1 x = true) : ev_PI w b pc x := by
  by_cases e : x = 112
  · rw [e]; exact ev_a112
  replace h1 : 113 ≤ x := by clear hk; omega
  clear e
  by_cases e : x = 113
  · rw [e]; exact ev_a113
  replace h1 : 114 ≤ x := by clear hk; omega
  clear e
  by_cases e : x = 114
  · rw [e]; exact ev_a114
  replace h1 : 115 ≤ x := by clear hk; omega
  clear e
  by_cases e : x = 115
  · rw [e]; exact ev_a115
  replace h1 : 116 ≤ x := by clear hk; omega
  clear e
  by_cases e : x = 116
  · rw [e]; exact ev_a116
  replace h1 : 117 ≤ x := by clear hk; omega
  clear e
  by_cases e : x = 117
  · rw [e]; exact ev_a117
  replace h1 : 118 ≤ x := by clear hk; omega
  clear e
  by_cases e : x = 118
  · rw [e]; exact ev_a118
  replace h1 : 119 ≤ x := by clear hk; omega
  clear e
  by_cases e : x = 119
  · rw [e]; exact ev_a119
  replace h1 : 120 ≤ x := by clear hk; omega
  clear e
  by_cases e : x = 120
  · rw [e]; exact ev_a120
  replace h1 : 121 ≤ x := by clear hk; omega
  clear e
  by_cases e : x = 121
  · rw [e]; exact ev_a121
  replace h1 : 122 ≤ x := by clear hk; omega
  clear e
  by_cases e : x = 122
  · rw [e]; exact ev_a122
  replace h1 : 123 ≤ x := by clear hk; omega
  clear e
  by_cases e : x = 123
  · rw [e]; exact ev_a123
  replace h1 : 124 ≤ x := by clear hk; omega
  clear e
  by_cases e : x = 124
  · rw [e]; exact ev_a124
  replace h1 : 125 ≤ x := by clear hk; omega
  clear e
  by_cases e : x = 125
  · rw [e]; exact ev_a125
  replace h1 : 126 ≤ x := by clear hk; omega
  clear e
  by_cases e : x = 126
  · rw [e]; exact ev_a126
  replace h1 : 127 ≤ x := by clear hk; omega
  clear e
  by_cases e : x = 127
  · rw [e]; exact ev_a127
  replace h1 : 128 ≤ x := by clear hk; omega
  clear e
  clear hk; omega
theorem ev_b8 (x : Nat) (h1 : 128 ≤ x) (h2 : x < 144) (hk : ev_ok1 x = true) : ev_PI w b pc x := by
  by_cases e : x = 128
  · rw [e]; exact ev_a128
  replace h1 : 129 ≤ x := by clear hk; omega
  clear e
  by_cases e : x = 129
  · rw [e]; exact ev_a129
  replace h1 : 130 ≤ x := by clear hk; omega
  clear e
  by_cases e : x = 130
  · rw [e]; exact ev_a130
  replace h1 : 131 ≤ x := by clear hk; omega
  clear e
  by_cases e : x = 131
  · rw [e]; exact ev_a131
  replace h1 : 132 ≤ x := by clear hk; omega
  clear e
  by_cases e : x = 132
  · rw [e]; exact ev_a132
  replace h1 : 133 ≤ x := by clear hk; omega
  clear e
  by_cases e : x = 133
  · rw [e]; exact ev_a133
  replace h1 : 134 ≤ x := by clear hk; omega
  clear e
  by_cases e : x = 134
  · rw [e]; exact ev_a134
  replace h1 : 135 ≤ x := by clear hk; omega
  clear e
  by_cases e : x = 135
  · rw [e]; exact ev_a135
  replace h1 : 136 ≤ x := by clear hk; omega
  clear e
  by_cases e : x = 136
  · rw [e]; exact ev_a136
  replace h1 : 137 ≤ x := by clear hk; omega
  clear e
  by_cases e : x = 137
  · rw [e]; exact ev_a137
  replace h1 : 138 ≤ x := by clear hk; omega
  clear e
  by_cases e : x = 138
  · rw [e]; exact ev_a138
  replace h1 : 139 ≤ x := by clear hk; omega
  clear e
  by_cases e : x = 139
  · rw [e]; exact ev_a139
  replace h1 : 140 ≤ x := by clear hk; omega
  clear e
  by_cases e : x = 140
  · rw [e]; exact ev_a140
  replace h1 : 141 ≤ x := by clear hk; omega
  clear e
  by_cases e : x = 141
  · rw [e]; exact ev_a141
  replace h1 : 142 ≤ x := by clear hk; omega
  clear e
  by_cases e : x = 142
  · rw [e]; exact ev_a142
  replace h1 : 143 ≤ x := by clear hk; omega
  clear e
  by_cases e : x = 143
  · rw [e]; exact ev_a143
  replace h1 : 144 ≤ x := by clear hk; omega
  clear e
  clear hk; omega
theorem ev_b9 (x : Nat) (h1 : 144 ≤ x) (h2 : x < 160) (hk : ev_ok1 x = true) : ev_PI w b pc x := by
  by_cases e : x = 144
  · rw [e]; exact ev_a144
  replace h1 : 145 ≤ x := by clear hk; omega
  clear e
  by_cases e : x = 145
  · rw [e]; exact ev_a145
  replace h1 : 146 ≤ x := by clear hk; omega
  clear e
  by_cases e : x = 146
  · rw [e]; exact ev_a146
  replace h1 : 147 ≤ x := by clear hk; omega
  clear e
  by_cases e : x = 147
  · rw [e]; exact ev_a147
  replace h1 : 148 ≤ x := by clear hk; omega
  clear e
  by_cases e : x = 148
  · rw [e]; exact ev_a148
  replace h1 : 149 ≤ x := by clear hk; omega
  clear e
  by_cases e : x = 149
  · rw [e]; exact ev_a149
  replace h1 : 150 ≤ x := by clear hk; omega
  clear e
  by_cases e : x = 150
  · rw [e]; exact ev_a150
  replace h1 : 151 ≤ x := by clear hk; omega
  clear e
  by_cases e : x = 151
  · rw [e]; exact ev_a151
  replace h1 : 152 ≤ x := by clear hk; omega
  clear e
  by_cases e : x = 152
  · rw [e]; exact ev_a152
  replace h1 : 153 ≤ x := by clear hk; omega
  clear e
  by_cases e : x = 153
  · rw [e]; exact ev_a153
  replace h1 : 154 ≤ x := by clear hk; omega
  clear e
  by_cases e : x = 154
  · rw [e]; exact ev_a154
  replace h1 : 155 ≤ x := by clear hk; omega
  clear e
  by_cases e : x = 155
  · rw [e]; exact ev_a155
  replace h1 : 156 ≤ x := by clear hk; omega
  clear e
  by_cases e : x = 156
  · rw [e]; exact ev_a156
  replace h1 : 157 ≤ x := by clear hk; omega
  clear e
  by_cases e : x = 157
  · rw [e]; exact ev_a157
  replace h1 : 158 ≤ x := by clear hk; omega
  clear e
  by_cases e : x = 158
  · rw [e]; exact ev_a158
  replace h1 : 159 ≤ x := by clear hk; omega
  clear e
  by_cases e : x = 159
  · rw [e]; exact ev_a159
  replace h1 : 160 ≤ x := by clear hk; omega
  clear e
  clear hk; omega
theorem ev_b10 (x : Nat) (h1 : 160 ≤ x) (h2 : x < 176) (hk : ev_ok1 x = true) : ev_PI w b pc x := by
  by_cases e : x = 160
  · rw [e]; exact ev_a160
  replace h1 : 161 ≤ x := by clear hk; omega
  clear e
  by_cases e : x = 161
  · rw [e]; exact ev_a161
  replace h1 : 162 ≤ x := by clear hk; omega
  clear e
  by_cases e : x = 162
  · rw [e]; exact ev_a162
  replace h1 : 163 ≤ x := by clear hk; omega
  clear e
  by_cases e : x = 163
  · rw [e]; exact ev_a163
  replace h1 : 164 ≤ x := by clear hk; omega
  clear e
  by_cases e : x = 164
  · rw [e]; exact ev_a164
  replace h1 : 165 ≤ x := by clear hk; omega
  clear e
  by_cases e : x = 165
  · rw [e]; exact ev_a165
  replace h1 : 166 ≤ x := by clear hk; omega
  clear e
  by_cases e : x = 166
  · rw [e]; exact ev_a166
  replace h1 : 167 ≤ x := by clear hk; omega
  clear e
  by_cases e : x = 167
  · rw [e]; exact ev_a167
  replace h1 : 168 ≤ x := by clear hk; omega
  clear e
  by_cases e : x = 168
  · rw [e]; exact ev_a168
  replace h1 : 169 ≤ x := by clear hk; omega
  clear e
  by_cases e : x = 169
  · rw [e]; exact ev_a169
  replace h1 : 170 ≤ x := by clear hk; omega
  clear e
  by_cases e : x = 170
  · rw [e] at hk; exact absurd hk (by decide)
  replace h1 : 171 ≤ x := by clear hk; omega
  clear e
  by_cases e : x = 171
  · rw [e] at hk; exact absurd hk (by decide)
  replace h1 : 172 ≤ x := by clear hk; omega
  clear e
  by_cases e : x = 172
  · rw [e]; exact ev_a172
  replace h1 : 173 ≤ x := by clear hk; omega
  clear e
  by_cases e : x = 173
  · rw [e]; exact ev_a173
  replace h1 : 174 ≤ x := by clear hk; omega
  clear e
  by_cases e : x = 174
  · rw [e]; exact ev_a174
  replace h1 : 175 ≤ x := by clear hk; omega
  clear e
  by_cases e : x = 175
  · rw [e]; exact ev_a175
  replace h1 : 176 ≤ x := by clear hk; omega
  clear e
  clear hk; omega
theorem ev_b11 (x : Nat) (h1 : 176 ≤ x) (h2 : x < 192) (hk : ev_ok1 x = true) : ev_PI w b pc x := by
  by_cases e : x = 176
  · rw [e]; exact ev_a176
  replace h1 : 177 ≤ x := by clear hk; omega
  clear e
  by_cases e : x = 177
  · rw [e]; exact ev_a177
  replace h1 : 178 ≤ x := by clear hk; omega
  clear e
  by_cases e : x = 178
  · rw [e]; exact ev_a178
  replace h1 : 179 ≤ x := by clear hk; omega
  clear e
  by_cases e : x = 179
  · rw [e]; exact ev_a179
  replace h1 : 180 ≤ x := by clear hk; omega
  clear e
  by_cases e : x = 180
  · rw [e]; exact ev_a180
  replace h1 : 181 ≤ x := by clear hk; omega
  clear e
  by_cases e : x = 181
  · rw [e]; exact ev_a181
  replace h1 : 182 ≤ x := by clear hk; omega
  clear e
  by_cases e : x = 182
  · rw [e]; exact ev_a182
  replace h1 : 183 ≤ x := by clear hk; omega
  clear e
  by_cases e : x = 183
  · rw [e]; exact ev_a183
  replace h1 : 184 ≤ x := by clear hk; omega
  clear e
  by_cases e : x = 184
  · rw [e]; exact ev_a184
  replace h1 : 185 ≤ x := by clear hk; omega
  clear e
  by_cases e : x = 185
  · rw [e] at hk; exact absurd hk (by decide)
  replace h1 : 186 ≤ x := by clear hk; omega
  clear e
  by_cases e : x = 186
  · rw [e] at hk; exact absurd hk (by decide)
  replace h1 : 187 ≤ x := by clear hk; omega
  clear e
  by_cases e : x = 187
  · rw [e]; exact ev_a187
  replace h1 : 188 ≤ x := by clear hk; omega
  clear e
  by_cases e : x = 188
  · rw [e]; exact ev_a188
  replace h1 : 189 ≤ x := by clear hk; omega
  clear e
  by_cases e : x = 189
  · rw [e]; exact ev_a189
  replace h1 : 190 ≤ x := by clear hk; omega
  clear e
  by_cases e : x = 190
  · rw [e]; exact ev_a190
  replace h1 : 191 ≤ x := by clear hk; omega
  clear e
  by_cases e : x = 191
  · rw [e]; exact ev_a191
  replace h1 : 192 ≤ x := by clear hk; omega
  clear e
  clear hk; omega
theorem ev_b12 (x : Nat) (h1 : 192 ≤ x) (h2 : x < 208) (hk : ev_ok1 x = true) : ev_PI w b pc x := by
  by_cases e : x = 192
  · rw [e]; exact ev_a192
  replace h1 : 193 ≤ x := by clear hk; omega
  clear e
  by_cases e : x = 193
  · rw [e]; exact ev_a193
  replace h1 : 194 ≤ x := by clear hk; omega
  clear e
  by_cases e : x = 194
  · rw [e]; exact ev_a194
  replace h1 : 195 ≤ x := by clear hk; omega
  clear e
  by_cases e : x = 195
  · rw [e]; exact ev_a195
  replace h1 : 196 ≤ x := by clear hk; omega
  clear e
  by_cases e : x = 196
  · rw [e]; exact ev_a196
  replace h1 : 197 ≤ x := by clear hk; omega
  clear e
  by_cases e : x = 197
  · rw [e]; exact ev_a197
  replace h1 : 198 ≤ x := by clear hk; omega
  clear e
  by_cases e : x = 198
  · rw [e]; exact ev_a198
  replace h1 : 199 ≤ x := by clear hk; omega
  clear e
  by_cases e : x = 199
  · rw [e]; exact ev_a199
  replace h1 : 200 ≤ x := by clear hk; omega
  clear e
  by_cases e : x = 200
  · rw [e]; exact ev_a200
  replace h1 : 201 ≤ x := by clear hk; omega
  clear e
  by_cases e : x = 201
  · rw [e]; exact ev_a201
  replace h1 : 202 ≤ x := by clear hk; omega
  clear e
  by_cases e : x = 202
  · rw [e] at hk; exact absurd hk (by decide)
  replace h1 : 203 ≤ x := by clear hk; omega
  clear e
  by_cases e : x = 203
  · rw [e] at hk; exact absurd hk (by decide)
  replace h1 : 204 ≤ x := by clear hk; omega
  clear e
  by_cases e : x = 204
  · rw [e] at hk; exact absurd hk (by decide)
  replace h1 : 205 ≤ x := by clear hk; omega
  clear e
  by_cases e : x = 205
  · rw [e] at hk; exact absurd hk (by decide)
  replace h1 : 206 ≤ x := by clear hk; omega
  clear e
  by_cases e : x = 206
  · rw [e] at hk; exact absurd hk (by decide)
  replace h1 : 207 ≤ x := by clear hk; omega
  clear e
  by_cases e : x = 207
  · rw [e] at hk; exact absurd hk (by decide)
  replace h1 : 208 ≤ x := by clear hk; omega
  clear e
  clear hk; omega
theorem ev_ball (x : Nat) (hk : ev_ok1 x = true) : ev_PI w b pc x := by
  have hx : x < 208 := by
    unfold ev_ok1 at hk
    cases h : Nat.ble 202 x with
    | true => rw [h] at hk; simp at hk
    | false => have := Nat.not_le_of_not_ble_eq_true (n := 202) (m := x) (by rw [h]; exact Bool.false_ne_true); omega
  have g : 0 ≤ x := Nat.zero_le x
  by_cases h : x < 16
  · exact ev_b0 x g h hk
  replace g : 16 ≤ x := Nat.le_of_not_lt h
  clear h
  by_cases h : x < 32
  · exact ev_b1 x g h hk
  replace g : 32 ≤ x := Nat.le_of_not_lt h
  clear h
  by_cases h : x < 48
  · exact ev_b2 x g h hk
  replace g : 48 ≤ x := Nat.le_of_not_lt h
  clear h
  by_cases h : x < 64
  · exact ev_b3 x g h hk
  replace g : 64 ≤ x := Nat.le_of_not_lt h
  clear h
  by_cases h : x < 80
  · exact ev_b4 x g h hk
  replace g : 80 ≤ x := Nat.le_of_not_lt h
  clear h
  by_cases h : x < 96
  · exact ev_b5 x g h hk
  replace g : 96 ≤ x := Nat.le_of_not_lt h
  clear h
  by_cases h : x < 112
  · exact ev_b6 x g h hk
  replace g : 112 ≤ x := Nat.le_of_not_lt h
  clear h
  by_cases h : x < 128
  · exact ev_b7 x g h hk
  replace g : 128 ≤ x := Nat.le_of_not_lt h
  clear h
  by_cases h : x < 144
  · exact ev_b8 x g h hk
  replace g : 144 ≤ x := Nat.le_of_not_lt h
  clear h
  by_cases h : x < 160
  · exact ev_b9 x g h hk
  replace g : 160 ≤ x := Nat.le_of_not_lt h
  clear h
  by_cases h : x < 176
  · exact ev_b10 x g h hk
  replace g : 176 ≤ x := Nat.le_of_not_lt h
  clear h
  by_cases h : x < 192
  · exact ev_b11 x g h hk
  replace g : 192 ≤ x := Nat.le_of_not_lt h
  clear h
  by_cases h : x < 208
  · exact ev_b12 x g h hk
  replace g : 208 ≤ x := Nat.le_of_not_lt h
  clear h
  omega
theorem ev_sim_body (hw : ev_win w b pc) {a : Instr} {n : Nat} (hn : ∀ x p1, (Reader.u1 : Decoder Nat) w 0 = .ok (x, p1) → ev_ok1 x = true) (h : Decoder.instr 0 w 0 = .ok (a, n)) : Decoder.instr pc b pc = .ok (a, pc + n) := by
  rw [ev_FI.2] at h ⊢
  obtain ⟨x, p1, e1, h⟩ := ev_bind_ok h
  exact ev_bind_mk (ev_sim_u1 hw 0 x p1 e1) (ev_ball x (hn x p1 e1) hw p1 a n h)
end EVWIN
