/-! FACTS that hold through calls -/
theorem ev_Ar_moved {u U : State} (hvm : u.vm.Alike U.vm) {cA : ClassId} {ty : FieldType} (h : ev_Ar u cA ty) : ev_Ar U cA ty := by
  refine ⟨arrOfT_moved hvm h.1, h.2.1.moved hvm, fun t e => ?_⟩
  obtain ⟨kA, comp, h1, h2, h3⟩ := h.2.2 t e
  obtain ⟨k', hk', he⟩ := hvm.2.2 _ _ h1
  exact ⟨k', comp, hk', by rw [he]; exact h2, by rw [hvm.findClass]; exact h3⟩
theorem ev_c_moved {u U : State} (hvm : u.vm.Alike U.vm) {ad : List Nat} {b : Nat} {x : ev_E} {e : va_E} (h : ev_c u ad b x e) : ev_c U ad b x e := by
  cases x with
  | inl a => obtain ⟨cA, h1, h2⟩ := h; exact ⟨cA, ev_Ar_moved hvm h1, h2⟩
  | inr o => exact h
theorem ev_W_moved {u U : State} (hvm : u.vm.Alike U.vm) {ad : List Nat} {b : Nat} {h : List ev_E} {ws : va_W} (hW : ev_W u ad b h ws) : ev_W U ad b h ws := ⟨hW.1, hW.2.1, fun k x y h1 h2 => ev_c_moved hvm (hW.2.2 k x y h1 h2)⟩
/-- words of a kind that warming keeps, though they are no good words -/
def ev_sw : Jvm.Cond → Bool
  | .methodLinkNest _ _ _ _ => true
  | .castable _ _ => true
  | .declares _ => true
  | _ => false
theorem ev_sw_warm {w : Jvm.Cond} (h : ev_sw w = true) {s U : State} (hW : s.WarmedH U.vm) (hw : va_Nw w s) : va_Nw w U := by
  cases w <;> first | (cases h; done) | skip
  all_goals first
    | exact va_Nw.warmM hW hw
    | exact va_Nw.warmC hW hw
    | exact va_Nw.warmD hW hw
def ev_AO (ty : FieldType) (U : State) : Prop := (Jvm.Cond.arrayOver ty).before #[] U = true
theorem ev_AOA_moved {t : FieldType} {u U : State} (hvm : u.vm.Alike U.vm) (h : ev_AO (.array t) u) : ev_AO (.array t) U := by
  obtain ⟨comp, c, k, h1, h2, h3, h4, h5⟩ := arrayOverA_spec h
  obtain ⟨k', hk', he⟩ := hvm.2.2 _ _ h3
  have hi : (U.vm.classes.findIdx? fun (x : Class) => match x.kind with | .array component _ => component == comp | _ => false) = some c := by
    rw [hvm.findIdx?_eq _ (fun _ => rfl)]
    exact h2
  have hkind : k'.kind = .array comp (.array t) := by rw [he]; exact h4
  have f1 : U.vm.findClass (FieldType.array t).toString = some comp := by rw [hvm.findClass]; exact h1
  have f2 : U.vm.findClass ("[" ++ (FieldType.array t).toString) = some c := by rw [hvm.findClass]; exact h5
  unfold ev_AO Jvm.Cond.before Jvm.Cond.holds
  simp only [Jvm.Cond.value]
  rw [f1, Option.bind_some]
  refine (congrArg (fun o : Option Nat => (o.bind (fun c => (U.vm.classes[c]?).map fun (k : Class) => match k.kind with | .array _ ty => decide (ty = FieldType.array t) && decide (U.vm.findClass ("[" ++ (FieldType.array t).toString) = some c) | _ => false) == some true)) hi).trans ?_
  simp [hk', hkind, f2]
def ev_ovOk (ov : List FieldType) : Prop := ∀ ty ∈ ov, (∃ C, ty = .object C) ∨ ∃ t, ty = .array t
theorem ev_AO_moved {ty : FieldType} (hty : (∃ C, ty = .object C) ∨ ∃ t, ty = .array t) {u U : State} (hvm : u.vm.Alike U.vm) (h : ev_AO ty u) : ev_AO ty U := by
  rcases hty with ⟨C, rfl⟩ | ⟨t, rfl⟩
  · exact va_AO.moved hvm h
  · exact ev_AOA_moved hvm h
/-- what holds at a method's entry beside its words: arrays' classes, nest mates' links, castable classes, such as are not, what Throwable's statics hold, String constants -/
def ev_F (ov : List FieldType) (nw : List Jvm.Cond) (nc : List (String × String)) (sr : List (String × Nat × String)) (A : Nat → Prop) (U : State) (H : Heap) : Prop :=
  (∀ ty ∈ ov, ev_AO ty U) ∧ (∀ w ∈ nw, va_Nw w U) ∧ (∀ q ∈ nc, va_Nc q.1 q.2 U) ∧ vx_Zq Bundle.tN "UNASSIGNED_STACK" Bundle.steD A U H ∧ vx_Zq Bundle.tN "SUPPRESSED_SENTINEL" Bundle.listD A U H ∧ ∀ q ∈ sr, ∃ sa : Nat, vk_R q.1 q.2.1 q.2.2 sa U
theorem ev_F_warm {ov : List FieldType} {nw : List Jvm.Cond} {nc : List (String × String)} {sr : List (String × Nat × String)} (hov : ev_ovOk ov) (hnw : ∀ w ∈ nw, ev_sw w = true) {A : Nat → Prop} {u U : State} {H : Heap} (hW : u.WarmedH U.vm) (h : ev_F ov nw nc sr A u H) : ev_F ov nw nc sr A U H := by
  obtain ⟨h1, h2, h3, h4, h5, h6⟩ := h
  refine ⟨fun ty hty => ev_AO_moved (hov ty hty) hW.alike (h1 ty hty), fun w hw => ev_sw_warm (hnw w hw) hW (h2 w hw), fun q hq => va_Nc.moved hW.alike (h3 q hq), vx_Zq.moved hW.alike h4, vx_Zq.moved hW.alike h5, fun q hq => ?_⟩
  obtain ⟨sa, h7⟩ := h6 q hq
  exact ⟨sa, vk_R.warm hW h7⟩
theorem ev_F_heap {ov : List FieldType} {nw : List Jvm.Cond} {nc : List (String × String)} {sr : List (String × Nat × String)} {A B : Nat → Prop} {U : State} {H H1 : Heap} (hk : ∀ a : Nat, a < H.size → ¬ A a → H1[a]? = H[a]?) (hAB : ∀ q, B q → A q) (h : ev_F ov nw nc sr A U H) : ev_F ov nw nc sr B U H1 := by
  obtain ⟨h1, h2, h3, h4, h5, h6⟩ := h
  exact ⟨h1, h2, h3, (h4.kept hk).narrow hAB, (h5.kept hk).narrow hAB, h6⟩
/-- the cells h at the addresses ad, with n of them, in the machine's cells ws -/
def ev_Pc (D : va_G) (cl : List vw_C) (ov : List FieldType) (nw : List Jvm.Cond) (nc : List (String × String)) (sr : List (String × Nat × String)) (as : List Value) (sz : Nat) (ad : List Nat) (b : Nat) (h : List ev_E) (n : Nat) (ws : va_W) : Array Value → State → Prop :=
  va_Pc as (fun U => U.heap.size = sz ∧ va_P D cl ws U.heap ∧ va_K D cl [] U ∧ va_D (fun _ => True) ws ∧ ev_W U ad b h ws ∧ h.length = n ∧ ev_F ov nw nc sr (va_A ws sz) U U.heap)
def ev_ro (ad : List Nat) (b : Nat) : Option Value → Option Value → Prop
  | none, none => True
  | some x, some y => ev_r ad b x y
  | _, _ => False
def ev_B (D : va_G) (cl : List vw_C) (ad : List Nat) (b : Nat) (h : List ev_E) (n : Nat) (A : Nat → Prop) (ad1 : List Nat) (t : State) : Prop := (∃ z, ad1 = ad ++ z) ∧ ∃ ws1 : va_W, va_P D cl ws1 t.heap ∧ va_D A ws1 ∧ ev_W t ad1 b h ws1 ∧ h.length = n
def ev_Qc (D : va_G) (cl : List vw_C) (v : Option Value) (ad : List Nat) (b : Nat) (h : List ev_E) (n : Nat) (A : Nat → Prop) : Array Value → State → Outcome → State → Prop := fun _ st o t =>
  (∃ (v' : Option Value) (ad1 : List Nat), o = .returned v' ∧ ev_ro ad1 b v v' ∧ ev_B D cl ad b h n A ad1 t) ∧ va_F A st t
def ev_XC (D : va_G) (cl : List vw_C) (E : String) (ad : List Nat) (b : Nat) (h : List ev_E) (n : Nat) (A : Nat → Prop) : String → State → State → Prop := fun E' st t =>
  E' = E ∧ (∃ ad1 : List Nat, ev_B D cl ad b h n A ad1 t) ∧ va_F A st t
theorem ev_Pc_blind {D : va_G} {cl : List vw_C} {ov : List FieldType} {nw : List Jvm.Cond} {nc : List (String × String)} {sr : List (String × Nat × String)} (hov : ev_ovOk ov) (hnw : ∀ w ∈ nw, ev_sw w = true) {as : List Value} {sz : Nat} {ad : List Nat} {b : Nat} {h : List ev_E} {n : Nat} {ws : va_W} : FrameBlind (ev_Pc D cl ov nw nc sr as sz ad b h n ws) := fun a U g mk q => by
  obtain ⟨h0, h1, h2, h3, h4, h5, h6, h7⟩ := q
  exact ⟨h0, h1, h2, va_K.moved (u := U) (U := U.calling g mk a) (Vm.Alike.refl U.vm) h3, h4, ev_W_moved (u := U) (U := U.calling g mk a) (Vm.Alike.refl U.vm) h5, h6, ev_F_warm (u := U) (U := U.calling g mk a) hov hnw (State.WarmedH.refl U) h7⟩
