/-! CALLS: the evaluator's are the machine's -/
theorem ev_pop_ok : ∀ {n : Nat} {acc st as rest : List Value}, ev_pop n acc st = some (as, rest) → ∃ xs : List Value, xs.length = n ∧ st = xs ++ rest ∧ as = xs.reverse ++ acc
  | 0, acc, st, as, rest, h => by
    cases h
    exact ⟨[], rfl, rfl, rfl⟩
  | n + 1, acc, [], as, rest, h => by cases h
  | n + 1, acc, v :: st, as, rest, h => by
    obtain ⟨xs, h1, h2, h3⟩ := ev_pop_ok (show ev_pop n (v :: acc) st = some (as, rest) from h)
    exact ⟨v :: xs, by rw [List.length_cons, h1], by rw [h2]; rfl, by rw [h3]; simp⟩
theorem ev_rs_split {ad : List Nat} {b : Nat} : ∀ {xs rest l' : List Value}, ev_rs ad b (xs ++ rest) l' → ∃ ys restc, l' = ys ++ restc ∧ ev_rs ad b xs ys ∧ ev_rs ad b rest restc
  | [], rest, l', h => ⟨[], l', rfl, trivial, h⟩
  | x :: xs, rest, l', h => by
    obtain ⟨y, t, rfl, h1, h2⟩ := ev_rs_cons (show ev_rs ad b (x :: (xs ++ rest)) l' from h)
    obtain ⟨ys, restc, rfl, h3, h4⟩ := ev_rs_split h2
    exact ⟨y :: ys, restc, rfl, ⟨h1, h3⟩, h4⟩
theorem ev_rs_app {ad : List Nat} {b : Nat} : ∀ {xs ys xs2 ys2 : List Value}, ev_rs ad b xs ys → ev_rs ad b xs2 ys2 → ev_rs ad b (xs ++ xs2) (ys ++ ys2)
  | [], [], _, _, _, h => h
  | [], _ :: _, _, _, h, _ => h.elim
  | _ :: _, [], _, _, h, _ => h.elim
  | _ :: _, _ :: _, _, _, h, h2 => ⟨h.1, ev_rs_app h.2 h2⟩
theorem ev_rs_rev {ad : List Nat} {b : Nat} : ∀ {xs ys : List Value}, ev_rs ad b xs ys → ev_rs ad b xs.reverse ys.reverse
  | [], [], _ => trivial
  | [], _ :: _, h => h.elim
  | _ :: _, [], h => h.elim
  | x :: xs, y :: ys, h => by
    rw [List.reverse_cons, List.reverse_cons]
    exact ev_rs_app (ev_rs_rev h.2) ⟨h.1, trivial⟩
theorem ev_sum_ok {ad : List Nat} {b : Nat} : ∀ {l l' : List Value}, ev_rs ad b l l' → (l'.map fun v => v.category).sum = ev_sum l
  | [], [], _ => rfl
  | [], _ :: _, h => h.elim
  | _ :: _, [], h => h.elim
  | x :: l, y :: l', h => by
    rw [List.map_cons, List.sum_cons, ev_sum_ok h.2, ev_r_cat h.1]
    rfl
def ev_cw (Y : Nat → MethodName) (B : Nat → ByteArray) (mi : Nat) (M : ev_M) : Jvm.Cond := match M.2.2.2.2.2.2.2 with
  | [] => Jvm.Cond.code (Y mi) (B mi) M.2.1 M.2.2.2.2.2.2.1
  | q :: l => Jvm.Cond.codeWith (Y mi) (B mi) M.2.1 M.2.2.2.2.2.2.1 ((q :: l).map (fun z => z.1))
/-- a method's own facts -/
def ev_mOk (TS : List Jvm.Cond) (nw : List Jvm.Cond) (nc : List (String × String)) (cl : List vw_C) (ov : List FieldType) (CN : Nat → String) (PE : Nat → ev_T) (Y : Nat → MethodName) (B : Nat → ByteArray) (mi : Nat) (M : ev_M) : Prop :=
  (∀ pc i len, M.1 pc = some (i, len) → decode (B mi) pc = .ok (i, len)) ∧ M.2.1 ≤ 20 ∧ (Y mi).cls = CN M.2.2.1 ∧ (M.2.2.2.1 = true → (Y mi).name = "<init>") ∧ plainName (Y mi).cls = true ∧
  ((Y mi).cls ≠ "java/lang/invoke/MethodHandle" ∧ (Y mi).cls ≠ "java/lang/invoke/VarHandle" ∧ (parseMethodDescriptor (Y mi).desc).map (fun d => d.parameters.length) = some M.2.2.2.2.2.1) ∧
  (ev_cw Y B mi M ∈ TS ∧ ∀ q ∈ M.2.2.2.2.2.2.2, q.1.2.2.2 ≠ 0 ∧ Jvm.Cond.classLink (CN M.2.2.1) q.1.2.2.2 q.2 ∈ TS ∧ Jvm.Cond.castable q.2 q.2 ∈ nw ∧ ∀ q2 ∈ M.2.2.2.2.2.2.2, q2.2 = q.2 ∨ (q.2, q2.2) ∈ nc) ∧
  Jvm.Cond.initialized (Y mi).cls ∈ TS ∧ ((Y mi).name = "<init>" → M.2.2.2.2.2.2.1 = none) ∧ ev_poolOk TS cl ov (CN M.2.2.1) (PE M.2.2.1)
/-- what an invoke's link says -/
def ev_lOk (TS : List Jvm.Cond) (nw : List Jvm.Cond) (CN : Nat → String) (Y : Nat → MethodName) (P : Nat → Option ev_M) (o x : Nat) : ev_L → Prop
  | (0, mi, _) => Jvm.Cond.methodLink (CN o) x (Y mi) ∈ TS ∧ Jvm.Cond.instanceMethod (Y mi) ∈ TS ∧ Jvm.Cond.selects (Y mi).cls (Y mi) (Y mi) ∈ TS ∧ ∀ M, P mi = some M → M.2.2.2.2.2.2.2 = []
  | (1, mi, _) => Jvm.Cond.methodLink (CN o) x (Y mi) ∈ TS ∧ Jvm.Cond.instanceMethod (Y mi) ∈ TS ∧ (Y mi).name = "<init>" ∧ ∀ M, P mi = some M → M.2.2.2.2.2.2.2 = []
  | (2, mi, _) => Jvm.Cond.methodLink (CN o) x (Y mi) ∈ TS ∧ Jvm.Cond.static (Y mi) ∈ TS ∧ ∀ M, P mi = some M → M.2.2.2.2.2.2.2 = []
  | (4, mi, _) => (∃ host, Jvm.Cond.methodLinkNest (CN o) x (Y mi) host ∈ nw) ∧ Jvm.Cond.instanceMethod (Y mi) ∈ TS ∧ (Y mi).name = "<init>" ∧ ∀ M, P mi = some M → M.2.2.2.2.2.2.2 = []
  | (5, mi, _) => (∃ host, Jvm.Cond.methodLinkNest (CN o) x (Y mi) host ∈ nw) ∧ Jvm.Cond.static (Y mi) ∈ TS ∧ ∀ M, P mi = some M → M.2.2.2.2.2.2.2 = []
  | (6, _, _) => Jvm.Cond.methodLink (CN o) x Lib.objectInit ∈ TS ∧ Jvm.Cond.instanceMethod Lib.objectInit ∈ TS ∧ Jvm.Cond.code Lib.objectInit ⟨#[0xb1]⟩ 1 none ∈ TS
  | (7, _, _) => Jvm.Cond.methodLink (CN o) x arraycopyName ∈ TS ∧ Jvm.Cond.native arraycopyName ∈ TS ∧ Jvm.Cond.static arraycopyName ∈ TS ∧ Jvm.Cond.initialized "java/lang/System" ∈ TS
  | (8, mi, _) => Jvm.Cond.methodLink (CN o) x (Y mi) ∈ TS ∧ Jvm.Cond.static (Y mi) ∈ TS ∧ ∀ M, P mi = some M → M.2.2.2.2.2.2.2 ≠ []
  | (9, _, _) => Jvm.Cond.methodLink (CN o) x Lib.Math.min.name ∈ TS ∧ Jvm.Cond.static Lib.Math.min.name ∈ TS ∧ Jvm.Cond.initialized "java/lang/Math" ∈ TS ∧ Jvm.Cond.code Lib.Math.min.name Lib.Math.min.code 2 (some .int) ∈ TS
  | (10, _, _) => Jvm.Cond.methodLink (CN o) x Lib.Math.max.name ∈ TS ∧ Jvm.Cond.static Lib.Math.max.name ∈ TS ∧ Jvm.Cond.initialized "java/lang/Math" ∈ TS ∧ Jvm.Cond.code Lib.Math.max.name Lib.Math.max.code 2 (some .int) ∈ TS
  | _ => False
/-- the contract of a call, d frames deep -/
def ev_Con (l : Launch) (TS nw : List Jvm.Cond) (nc : List (String × String)) (sr : List (String × Nat × String)) (cl : List vw_C) (ov : List FieldType) (Y : Nat → MethodName) (B : Nat → ByteArray) (d mi : Nat) (M : ev_M) (as : List Value) (h : List ev_E) (n : Nat) : ev_Z → Prop
  | (.inl v, h', n', dc, ds) => ∀ (D : va_G) (as' : List Value) (sz b : Nat) (ad : List Nat) (ws : va_W), ev_rs ad b as as' → Met l (Y mi) (ev_cw Y B mi M :: TS) { frames := d, cells := dc, slots := ds, locals := 39 * d } (ev_Pc D cl ov nw nc sr as' sz ad b h n ws) (ev_Qc D cl v ad b h' n' (va_A ws sz)) dc ds (va_A ws sz)
  | (.inr E, h', n', dc, ds) => ∀ (D : va_G) (as' : List Value) (sz b : Nat) (ad : List Nat) (ws : va_W), ev_rs ad b as as' → vx_Met l (Y mi) (ev_cw Y B mi M :: TS) { frames := d, cells := dc, slots := ds, locals := 39 * d } (ev_Pc D cl ov nw nc sr as' sz ad b h n ws) (fun _ _ _ _ => False) (ev_XC D cl E ad b h' n' (va_A ws sz)) dc ds (va_A ws sz)
section EVC
variable {p : Program} {l : Launch} {e : Env} {R : Room} {s : State} {m : MethodId} {args : Array Value} {below : List Frame} {meth : Method} {c : Code} {H : Heap} {locs : List Loc} {cells slots : Nat} {Q : State → Prop}
variable {pc : Nat} {ls : Array Slot} {rest st0 : List Value} {a : Array Value} {A0 A1 : Nat → Prop} {H0 : Heap} {mc ms : Nat} {free : Addr → Prop} {D : va_G} {cl : List vw_C}
theorem ev_back_row {v : Option Value} {ad : List Nat} {b n' : Nat} {h' : List ev_E} (hr : va_Run p l e R s m args below meth c H locs cells slots mc ms (F0 m pc ls st0) rest (ev_Qc D cl v ad b h' n' A1 a) free) (hS : va_S A0 H0 H locs) (hA : ∀ q, A1 q → A0 q) (hf : ∀ q, free q → A0 q)
    (kk : ∀ (v' : Option Value) (ad1 : List Nat) (H1 : Heap) (locs1 : List Loc), (∃ z, ad1 = ad ++ z) → ev_ro ad1 b v v' → ev_J D cl A0 s H0 H1 locs1 ad1 b h' n' → W p l e R s m args below meth c H1 locs1 (cells + mc) (slots + ms) Q (F0 m (pc + 3) ls (v'.toList ++ rest))) : W p l e R s m args below meth c H locs cells slots Q (F0 m pc ls st0) := by
  intro T hT X
  obtain ⟨v0, st₀, t, T', L, h0, X', hL, e1, e2, ⟨⟨v', ad1, hv, hro, hz, ws1, g1, g2, g3, g4⟩, hF⟩, st⟩ := hr T hT X
  cases hv
  obtain ⟨k1, k2, k3⟩ := vx_keep h0 e1 hS (fun q _ h => hA q h) hf hL hF
  obtain ⟨t2, a1, b1⟩ := kk v0 ad1 T'.heap (locs ++ L) hz hro ⟨ws1, by rw [e1]; exact g1, g2.weaken (fun _ _ _ h => hA _ h), k3, ev_W_moved (by rw [← e2]; exact X'.warmed.alike.symm) g3, g4⟩ T' rfl X'
  exact ⟨t2, st t2 a1, b1⟩
theorem ev_thrown_row {E : String} {ad : List Nat} {b n' : Nat} {h' : List ev_E} (hr : vx_Run p l e R s m args below meth c H locs cells slots mc ms (F0 m pc ls st0) rest (fun _ _ _ => False) (ev_XC D cl E ad b h' n' A1) free) (hS : va_S A0 H0 H locs) (hA : ∀ q, A1 q → A0 q) (hf : ∀ q, free q → A0 q)
    (kk : ∀ (ce : Cell) (q9 : Addr) (ad1 : List Nat) (H1 : Heap) (locs1 : List Loc), (∃ z, ad1 = ad ++ z) → ev_J D cl A0 s H0 H1 locs1 ad1 b h' n' → H1[q9]? = some ce → ce.vm = .none → s.vm.findClass E = some ce.cls → vx_W p l e R s m args below meth c H1 locs1 (cells + mc) (slots + ms) Q (F0 m pc ls rest) q9) : W p l e R s m args below meth c H locs cells slots Q (F0 m pc ls st0) := by
  intro T hT X
  rcases hr T hT X with ⟨v, st₀, t, T', L, h0, X', hL, e1, e2, hq, st⟩ | ⟨q, st₀, t, T', L, E', ce, h0, X', hL, e1, e2, ⟨hE, ⟨ad1, hz, ws1, g1, g2, g3, g4⟩, hF⟩, hce, hcv, hcl, st⟩
  · exact hq.elim
  · subst hE
    obtain ⟨k1, k2, k3⟩ := vx_keep h0 e1 hS (fun q _ h => hA q h) hf hL hF
    obtain ⟨t2, a1, b1⟩ := kk ce q ad1 T'.heap (locs ++ L) hz ⟨ws1, by rw [e1]; exact g1, g2.weaken (fun _ _ _ h => hA _ h), k3, ev_W_moved (by rw [← e2]; exact X'.warmed.alike.symm) g3, g4⟩ (by rw [e1]; exact hce) hcv hcl T' rfl X'
    exact ⟨t2, st.trans a1, b1⟩
theorem ev_free {ws : va_W} (hD : va_D A0 ws) (hS : va_S A0 H0 H locs) (hA : ∀ q, H0.size ≤ q → A0 q) : ∀ q, va_A ws H.size q → A0 q := by
  intro q h
  rcases h with ⟨k, e, h⟩ | h
  · exact hD.2 k (q, e) h
  · exact hA q (Nat.le_trans hS.1 h)
/-- what a callee finds -/
theorem ev_pre {ov : List FieldType} {nw : List Jvm.Cond} {nc : List (String × String)} {sr : List (String × Nat × String)} (hov : ev_ovOk ov) (hnw : ∀ w ∈ nw, ev_sw w = true) {ad : List Nat} {b n : Nat} {h : List ev_E} {ws : va_W} (hK : va_K D cl [] s) (hP : va_P D cl ws H) (hD : va_D A0 ws) (hS : va_S A0 s.heap H locs) (hA : ∀ q, s.heap.size ≤ q → A0 q) (hW : ev_W s ad b h ws) (hn : h.length = n) (hF : ev_F ov nw nc sr A0 s s.heap) (as' : List Value) :
    PreS s H (ev_Pc D cl ov nw nc sr as' H.size ad b h n ws) as' := by
  refine ⟨ev_Pc_blind hov hnw, fun U hU hW1 => ⟨rfl, by rw [hU], by rw [hU]; exact hP, va_K.moved hW1.alike hK, hD.weaken (fun _ _ _ _ => trivial), ev_W_moved hW1.alike hW, hn, ?_⟩⟩
  rw [hU]
  exact ev_F_warm hov hnw hW1 (ev_F_heap hS.2.1 (ev_free hD hS hA) hF)
end EVC
