section EVP
variable {p : Program} {l : Launch} {e : Env} {R : Room} {s : State} {m : MethodId} {args : Array Value} {below : List Frame} {meth : Method} {c : Code} {H : Heap} {locs : List Loc} {cells slots : Nat} {Q : State → Prop}
variable {cc : ByteArray} {pc pc' nL b len : Nat} {ad : List Nat}
theorem ev_nt_ifCond_eq (hexec : p.tables.exec = Jvm.exec) (hb : c.code = cc) {x : Int32} {off : Int} {ls : Array Slot} {rest : List Value} (hdg : decode cc pc = .ok (.ifCond .eq off, 3)) (hP : ¬ (x = 0))
    (k : W p l e R s m args below meth c H locs cells slots Q (F0 m (pc + 3) ls rest)) : W p l e R s m args below meth c H locs cells slots Q (F0 m pc ls (.int x :: rest)) := by
  intro T hT X
  obtain ⟨t, a, b⟩ := k T hT X
  refine ⟨t, ?_, b⟩
  jvm_step X.here [X.here.top, hexec, hb, hdg, Op.ifCond.holds, hP]
  exact a
theorem ev_nt_ifCond_ne (hexec : p.tables.exec = Jvm.exec) (hb : c.code = cc) {x : Int32} {off : Int} {ls : Array Slot} {rest : List Value} (hdg : decode cc pc = .ok (.ifCond .ne off, 3)) (hP : x = 0)
    (k : W p l e R s m args below meth c H locs cells slots Q (F0 m (pc + 3) ls rest)) : W p l e R s m args below meth c H locs cells slots Q (F0 m pc ls (.int x :: rest)) := by
  intro T hT X
  obtain ⟨t, a, b⟩ := k T hT X
  refine ⟨t, ?_, b⟩
  jvm_step X.here [X.here.top, hexec, hb, hdg, Op.ifCond.holds, hP]
  exact a
theorem ev_nt_ifCond_lt (hexec : p.tables.exec = Jvm.exec) (hb : c.code = cc) {x : Int32} {off : Int} {ls : Array Slot} {rest : List Value} (hdg : decode cc pc = .ok (.ifCond .lt off, 3)) (hP : ¬ (x < 0))
    (k : W p l e R s m args below meth c H locs cells slots Q (F0 m (pc + 3) ls rest)) : W p l e R s m args below meth c H locs cells slots Q (F0 m pc ls (.int x :: rest)) := by
  intro T hT X
  obtain ⟨t, a, b⟩ := k T hT X
  refine ⟨t, ?_, b⟩
  jvm_step X.here [X.here.top, hexec, hb, hdg, Op.ifCond.holds, hP]
  exact a
theorem ev_nt_ifCond_ge (hexec : p.tables.exec = Jvm.exec) (hb : c.code = cc) {x : Int32} {off : Int} {ls : Array Slot} {rest : List Value} (hdg : decode cc pc = .ok (.ifCond .ge off, 3)) (hP : ¬ (0 ≤ x))
    (k : W p l e R s m args below meth c H locs cells slots Q (F0 m (pc + 3) ls rest)) : W p l e R s m args below meth c H locs cells slots Q (F0 m pc ls (.int x :: rest)) := by
  intro T hT X
  obtain ⟨t, a, b⟩ := k T hT X
  refine ⟨t, ?_, b⟩
  jvm_step X.here [X.here.top, hexec, hb, hdg, Op.ifCond.holds, hP]
  exact a
theorem ev_nt_ifCond_gt (hexec : p.tables.exec = Jvm.exec) (hb : c.code = cc) {x : Int32} {off : Int} {ls : Array Slot} {rest : List Value} (hdg : decode cc pc = .ok (.ifCond .gt off, 3)) (hP : ¬ (0 < x))
    (k : W p l e R s m args below meth c H locs cells slots Q (F0 m (pc + 3) ls rest)) : W p l e R s m args below meth c H locs cells slots Q (F0 m pc ls (.int x :: rest)) := by
  intro T hT X
  obtain ⟨t, a, b⟩ := k T hT X
  refine ⟨t, ?_, b⟩
  jvm_step X.here [X.here.top, hexec, hb, hdg, Op.ifCond.holds, hP]
  exact a
theorem ev_nt_ifCond_le (hexec : p.tables.exec = Jvm.exec) (hb : c.code = cc) {x : Int32} {off : Int} {ls : Array Slot} {rest : List Value} (hdg : decode cc pc = .ok (.ifCond .le off, 3)) (hP : ¬ (x ≤ 0))
    (k : W p l e R s m args below meth c H locs cells slots Q (F0 m (pc + 3) ls rest)) : W p l e R s m args below meth c H locs cells slots Q (F0 m pc ls (.int x :: rest)) := by
  intro T hT X
  obtain ⟨t, a, b⟩ := k T hT X
  refine ⟨t, ?_, b⟩
  jvm_step X.here [X.here.top, hexec, hb, hdg, Op.ifCond.holds, hP]
  exact a
theorem ev_nt_if_icmp_eq (hexec : p.tables.exec = Jvm.exec) (hb : c.code = cc) {x y : Int32} {off : Int} {ls : Array Slot} {rest : List Value} (hdg : decode cc pc = .ok (.if_icmp .eq off, 3)) (hP : ¬ (x = y))
    (k : W p l e R s m args below meth c H locs cells slots Q (F0 m (pc + 3) ls rest)) : W p l e R s m args below meth c H locs cells slots Q (F0 m pc ls (.int y :: .int x :: rest)) := by
  intro T hT X
  obtain ⟨t, a, b⟩ := k T hT X
  refine ⟨t, ?_, b⟩
  jvm_step X.here [X.here.top, hexec, hb, hdg, Op.if_icmp.holds, hP]
  exact a
theorem ev_nt_if_icmp_ne (hexec : p.tables.exec = Jvm.exec) (hb : c.code = cc) {x y : Int32} {off : Int} {ls : Array Slot} {rest : List Value} (hdg : decode cc pc = .ok (.if_icmp .ne off, 3)) (hP : x = y)
    (k : W p l e R s m args below meth c H locs cells slots Q (F0 m (pc + 3) ls rest)) : W p l e R s m args below meth c H locs cells slots Q (F0 m pc ls (.int y :: .int x :: rest)) := by
  intro T hT X
  obtain ⟨t, a, b⟩ := k T hT X
  refine ⟨t, ?_, b⟩
  jvm_step X.here [X.here.top, hexec, hb, hdg, Op.if_icmp.holds, hP]
  exact a
theorem ev_nt_if_icmp_lt (hexec : p.tables.exec = Jvm.exec) (hb : c.code = cc) {x y : Int32} {off : Int} {ls : Array Slot} {rest : List Value} (hdg : decode cc pc = .ok (.if_icmp .lt off, 3)) (hP : ¬ (x < y))
    (k : W p l e R s m args below meth c H locs cells slots Q (F0 m (pc + 3) ls rest)) : W p l e R s m args below meth c H locs cells slots Q (F0 m pc ls (.int y :: .int x :: rest)) := by
  intro T hT X
  obtain ⟨t, a, b⟩ := k T hT X
  refine ⟨t, ?_, b⟩
  jvm_step X.here [X.here.top, hexec, hb, hdg, Op.if_icmp.holds, hP]
  exact a
theorem ev_nt_if_icmp_ge (hexec : p.tables.exec = Jvm.exec) (hb : c.code = cc) {x y : Int32} {off : Int} {ls : Array Slot} {rest : List Value} (hdg : decode cc pc = .ok (.if_icmp .ge off, 3)) (hP : ¬ (y ≤ x))
    (k : W p l e R s m args below meth c H locs cells slots Q (F0 m (pc + 3) ls rest)) : W p l e R s m args below meth c H locs cells slots Q (F0 m pc ls (.int y :: .int x :: rest)) := by
  intro T hT X
  obtain ⟨t, a, b⟩ := k T hT X
  refine ⟨t, ?_, b⟩
  jvm_step X.here [X.here.top, hexec, hb, hdg, Op.if_icmp.holds, hP]
  exact a
theorem ev_nt_if_icmp_gt (hexec : p.tables.exec = Jvm.exec) (hb : c.code = cc) {x y : Int32} {off : Int} {ls : Array Slot} {rest : List Value} (hdg : decode cc pc = .ok (.if_icmp .gt off, 3)) (hP : ¬ (y < x))
    (k : W p l e R s m args below meth c H locs cells slots Q (F0 m (pc + 3) ls rest)) : W p l e R s m args below meth c H locs cells slots Q (F0 m pc ls (.int y :: .int x :: rest)) := by
  intro T hT X
  obtain ⟨t, a, b⟩ := k T hT X
  refine ⟨t, ?_, b⟩
  jvm_step X.here [X.here.top, hexec, hb, hdg, Op.if_icmp.holds, hP]
  exact a
theorem ev_nt_if_icmp_le (hexec : p.tables.exec = Jvm.exec) (hb : c.code = cc) {x y : Int32} {off : Int} {ls : Array Slot} {rest : List Value} (hdg : decode cc pc = .ok (.if_icmp .le off, 3)) (hP : ¬ (x ≤ y))
    (k : W p l e R s m args below meth c H locs cells slots Q (F0 m (pc + 3) ls rest)) : W p l e R s m args below meth c H locs cells slots Q (F0 m pc ls (.int y :: .int x :: rest)) := by
  intro T hT X
  obtain ⟨t, a, b⟩ := k T hT X
  refine ⟨t, ?_, b⟩
  jvm_step X.here [X.here.top, hexec, hb, hdg, Op.if_icmp.holds, hP]
  exact a
theorem ev_r_ra {r : Nat} {y : Value} (h : ev_r ad b (.retAddr r) y) : ∃ z, y = .ref z := by
  cases r with
  | zero => exact ⟨b, h⟩
  | succ r => exact h
theorem ev_to_ok {lv : List (Nat × Value)} {r : List Value} {o : Option Nat} {z : Nat × List (Nat × Value) × List Value} (h : ev_to lv r o = some z) : ∃ t, o = some t ∧ (t, lv, r) = z := by
  cases o with
  | none => cases h
  | some t => exact ⟨t, rfl, Option.some.inj h⟩
theorem ev_tsw_ok {lv : List (Nat × Value)} {d lo hi : Int} {offs : Array Int} {st : List Value} {z : Nat × List (Nat × Value) × List Value} (h : ev_tsw pc lv d lo hi offs st = some z) : ∃ (x : Int32) (r : List Value) (off : Int) (t : Nat), st = .int x :: r ∧ ev_tg pc off = some t ∧ (((x.toInt < lo ∨ hi < x.toInt) ∧ off = d) ∨ (¬ (x.toInt < lo ∨ hi < x.toInt) ∧ offs[(x.toInt - lo).toNat]? = some off)) ∧ (t, lv, r) = z := by
  unfold ev_tsw at h
  split at h
  · next x r =>
    split at h
    · next hd =>
      obtain ⟨t, ht, e⟩ := ev_to_ok h
      exact ⟨x, r, d, t, rfl, ht, Or.inl ⟨of_decide_eq_true hd, rfl⟩, e⟩
    · next hd =>
      split at h
      · next o ho =>
        obtain ⟨t, ht, e⟩ := ev_to_ok h
        exact ⟨x, r, o, t, rfl, ht, Or.inr ⟨of_decide_eq_false hd, ho⟩, e⟩
      · cases h
  · cases h
theorem ev_lsw_ok {lv : List (Nat × Value)} {d : Int} {ps : Array (Int × Int)} {st : List Value} {z : Nat × List (Nat × Value) × List Value} (h : ev_lsw pc lv d ps st = some z) : ∃ (x : Int32) (r : List Value) (t : Nat), st = .int x :: r ∧ ev_tg pc (Op.lookupswitch.offset ps.toList d x.toInt) = some t ∧ (ps.toList.zip (ps.toList.drop 1)).all (fun (a, next) => a.1 < next.1) = true ∧ (t, lv, r) = z := by
  unfold ev_lsw at h
  split at h
  · next x r =>
    split at h
    · next hd =>
      obtain ⟨t, ht, e⟩ := ev_to_ok h
      exact ⟨x, r, t, rfl, ht, hd, e⟩
    · cases h
  · cases h
theorem ev_br_ok {q : Bool} {t : Nat} {off : Int} (h : ev_br q pc off = some t) : (q = true ∧ (pc : Int) + off = (t : Int)) ∨ (q = false ∧ t = pc + 3) := by
  cases q with
  | true => exact Or.inl ⟨rfl, ev_tg_ok h⟩
  | false => exact Or.inr ⟨rfl, (Option.some.inj (show some (pc + 3) = some t from h)).symm⟩
theorem ev_ifCond_ok (hexec : p.tables.exec = Jvm.exec) (hb : c.code = cc) {q : ClassFile.Cond} {x : Int32} {off : Int} {t : Nat} {ls : Array Slot} {rest : List Value} (hdg : decode cc pc = .ok (.ifCond q off, 3)) (h : ev_br (ev_cmp q x 0) pc off = some t)
    (k : W p l e R s m args below meth c H locs cells slots Q (F0 m t ls rest)) : W p l e R s m args below meth c H locs cells slots Q (F0 m pc ls (.int x :: rest)) := by
  rcases ev_br_ok h with ⟨h1, h2⟩ | ⟨h1, rfl⟩
  · cases q with
    | eq =>
      have hc : x = 0 := of_decide_eq_true h1
      exact lv_if_eq hexec hb hdg h2 (fun _ => k) (fun g => absurd hc g)
    | ne =>
      have hc : ¬ (x = 0) := of_decide_eq_false ((Bool.not_eq_true' _).mp h1)
      exact lv_if_ne hexec hb hdg h2 (fun _ => k) (fun g => absurd g hc)
    | lt =>
      have hc : x < 0 := of_decide_eq_true h1
      exact lv_if_lt hexec hb hdg h2 (fun _ => k) (fun g => absurd hc g)
    | ge =>
      have hc : 0 ≤ x := of_decide_eq_true h1
      exact lv_if_ge hexec hb hdg h2 (fun _ => k) (fun g => absurd hc g)
    | gt =>
      have hc : 0 < x := of_decide_eq_true h1
      exact lv_if_gt hexec hb hdg h2 (fun _ => k) (fun g => absurd hc g)
    | le =>
      have hc : x ≤ 0 := of_decide_eq_true h1
      exact lv_if_le hexec hb hdg h2 (fun _ => k) (fun g => absurd hc g)
  · cases q with
    | eq =>
      have hc : ¬ (x = 0) := of_decide_eq_false h1
      exact ev_nt_ifCond_eq hexec hb hdg hc k
    | ne =>
      have hc : x = 0 := of_decide_eq_true ((Bool.not_eq_false' _).mp h1)
      obtain ⟨tg, htg⟩ : ∃ tg : Nat, True := ⟨0, trivial⟩
      exact ev_nt_ifCond_ne hexec hb hdg hc k
    | lt =>
      have hc : ¬ (x < 0) := of_decide_eq_false h1
      exact ev_nt_ifCond_lt hexec hb hdg hc k
    | ge =>
      have hc : ¬ (0 ≤ x) := of_decide_eq_false h1
      exact ev_nt_ifCond_ge hexec hb hdg hc k
    | gt =>
      have hc : ¬ (0 < x) := of_decide_eq_false h1
      exact ev_nt_ifCond_gt hexec hb hdg hc k
    | le =>
      have hc : ¬ (x ≤ 0) := of_decide_eq_false h1
      exact ev_nt_ifCond_le hexec hb hdg hc k
theorem ev_if_icmp_ok (hexec : p.tables.exec = Jvm.exec) (hb : c.code = cc) {q : ClassFile.Cond} {x y : Int32} {off : Int} {t : Nat} {ls : Array Slot} {rest : List Value} (hdg : decode cc pc = .ok (.if_icmp q off, 3)) (h : ev_br (ev_cmp q x y) pc off = some t)
    (k : W p l e R s m args below meth c H locs cells slots Q (F0 m t ls rest)) : W p l e R s m args below meth c H locs cells slots Q (F0 m pc ls (.int y :: .int x :: rest)) := by
  rcases ev_br_ok h with ⟨h1, h2⟩ | ⟨h1, rfl⟩
  · cases q with
    | eq =>
      have hc : x = y := of_decide_eq_true h1
      exact lv_icmp_eq hexec hb hdg h2 (fun _ => k) (fun g => absurd hc g)
    | ne =>
      have hc : ¬ (x = y) := of_decide_eq_false ((Bool.not_eq_true' _).mp h1)
      exact lv_icmp_ne hexec hb hdg h2 (fun _ => k) (fun g => absurd g hc)
    | lt =>
      have hc : x < y := of_decide_eq_true h1
      exact lv_icmp_lt hexec hb hdg h2 (fun _ => k) (fun g => absurd hc g)
    | ge =>
      have hc : y ≤ x := of_decide_eq_true h1
      exact lv_icmp_ge hexec hb hdg h2 (fun _ => k) (fun g => absurd hc g)
    | gt =>
      have hc : y < x := of_decide_eq_true h1
      exact lv_icmp_gt hexec hb hdg h2 (fun _ => k) (fun g => absurd hc g)
    | le =>
      have hc : x ≤ y := of_decide_eq_true h1
      exact lv_icmp_le hexec hb hdg h2 (fun _ => k) (fun g => absurd hc g)
  · cases q with
    | eq =>
      have hc : ¬ (x = y) := of_decide_eq_false h1
      exact ev_nt_if_icmp_eq hexec hb hdg hc k
    | ne =>
      have hc : x = y := of_decide_eq_true ((Bool.not_eq_false' _).mp h1)
      obtain ⟨tg, htg⟩ : ∃ tg : Nat, True := ⟨0, trivial⟩
      exact ev_nt_if_icmp_ne hexec hb hdg hc k
    | lt =>
      have hc : ¬ (x < y) := of_decide_eq_false h1
      exact ev_nt_if_icmp_lt hexec hb hdg hc k
    | ge =>
      have hc : ¬ (y ≤ x) := of_decide_eq_false h1
      exact ev_nt_if_icmp_ge hexec hb hdg hc k
    | gt =>
      have hc : ¬ (y < x) := of_decide_eq_false h1
      exact ev_nt_if_icmp_gt hexec hb hdg hc k
    | le =>
      have hc : ¬ (x ≤ y) := of_decide_eq_false h1
      exact ev_nt_if_icmp_le hexec hb hdg hc k
set_option maxHeartbeats 4000000 in
theorem ev_pure_ok (hexec : p.tables.exec = Jvm.exec) (hb : c.code = cc) {i : Instr} {lv lv' lvc : List (Nat × Value)} {st st' stc : List Value} {ls : Array Slot} (hdg : decode cc pc = .ok (i, len)) (h : ev_pure nL i len pc lv st = some (pc', lv', st')) (hr : ev_rs ad b st stc) (hlv : ev_ls ad b lv lvc) (hh : lv_has ls nL lvc)
    (k : ∀ (ls' : Array Slot) (lvc' : List (Nat × Value)) (stc' : List Value), ev_rs ad b st' stc' → ev_ls ad b lv' lvc' → lv_has ls' nL lvc' → W p l e R s m args below meth c H locs cells slots Q (F0 m pc' ls' stc')) : W p l e R s m args below meth c H locs cells slots Q (F0 m pc ls stc) := by
  cases i with
  | aconst_null =>
    obtain ⟨rfl, h9⟩ := ev_g_ok h
    cases h9
    exact lv_null hexec hb hdg (k ls lvc _ ⟨rfl, hr⟩ hlv hh)
  | aload i =>
    obtain ⟨rfl, h9⟩ := ev_g_ok h
    split at h9
    · next r e => cases h9; obtain ⟨j, y, h1, h2⟩ := ev_lk_at hlv e; obtain ⟨z, h3, rfl⟩ := h2; exact lv_aload hexec hb hdg (lv_at hh j h1) (k ls lvc _ ⟨⟨z, h3, rfl⟩, hr⟩ hlv hh)
    · next e => cases h9; obtain ⟨j, y, h1, h2⟩ := ev_lk_at hlv e; cases h2; exact lv_aloadN hexec hb hdg (lv_at hh j h1) (k ls lvc _ ⟨rfl, hr⟩ hlv hh)
    · next r e => cases h9; obtain ⟨j, y, h1, h2⟩ := ev_lk_at hlv e; obtain ⟨z, rfl⟩ := ev_r_ra h2; exact lv_aload hexec hb hdg (lv_at hh j h1) (k ls lvc _ ⟨h2, hr⟩ hlv hh)
    · cases h9
  | aload_n q =>
    obtain ⟨rfl, h9⟩ := ev_g_ok h
    split at h9
    · next r e => cases h9; obtain ⟨j, y, h1, h2⟩ := ev_lk_at hlv e; obtain ⟨z, h3, rfl⟩ := h2; exact lv_aload_n hexec hb hdg rfl (lv_at hh j h1) (k ls lvc _ ⟨⟨z, h3, rfl⟩, hr⟩ hlv hh)
    · next e => cases h9; obtain ⟨j, y, h1, h2⟩ := ev_lk_at hlv e; cases h2; exact lv_aload_nN hexec hb hdg rfl (lv_at hh j h1) (k ls lvc _ ⟨rfl, hr⟩ hlv hh)
    · next r e => cases h9; obtain ⟨j, y, h1, h2⟩ := ev_lk_at hlv e; obtain ⟨z, rfl⟩ := ev_r_ra h2; exact lv_aload_n hexec hb hdg rfl (lv_at hh j h1) (k ls lvc _ ⟨h2, hr⟩ hlv hh)
    · cases h9
  | iload i =>
    obtain ⟨rfl, h9⟩ := ev_g_ok h
    split at h9
    · next r e => cases h9; obtain ⟨j, y, h1, h2⟩ := ev_lk_at hlv e; cases h2; exact lv_iload hexec hb hdg (lv_at hh j h1) (k ls lvc _ ⟨rfl, hr⟩ hlv hh)
    · cases h9
  | iload_n q =>
    obtain ⟨rfl, h9⟩ := ev_g_ok h
    split at h9
    · next r e => cases h9; obtain ⟨j, y, h1, h2⟩ := ev_lk_at hlv e; cases h2; exact lv_iload_n hexec hb hdg rfl (lv_at hh j h1) (k ls lvc _ ⟨rfl, hr⟩ hlv hh)
    · cases h9
  | lload i =>
    obtain ⟨rfl, h9⟩ := ev_g_ok h
    split at h9
    · next r e => cases h9; obtain ⟨j, y, h1, h2⟩ := ev_lk_at hlv e; cases h2; exact lv_lload hexec hb hdg (lv_at hh j h1) (k ls lvc _ ⟨rfl, hr⟩ hlv hh)
    · cases h9
  | lload_n q =>
    obtain ⟨rfl, h9⟩ := ev_g_ok h
    split at h9
    · next r e => cases h9; obtain ⟨j, y, h1, h2⟩ := ev_lk_at hlv e; cases h2; exact lv_lload_n hexec hb hdg rfl (lv_at hh j h1) (k ls lvc _ ⟨rfl, hr⟩ hlv hh)
    · cases h9
  | astore i =>
    obtain ⟨rfl, h9⟩ := ev_g_ok h
    split at h9
    · next hd =>
      have hi := of_decide_eq_true hd
      split at h9
      · next z r => cases h9; obtain ⟨y, t, rfl, h2, h3⟩ := ev_rs_cons hr; obtain ⟨a, h4, rfl⟩ := h2; exact lv_astore hexec hb hdg hh hi rfl (fun ls' hh' => k ls' _ _ h3 (ev_st1_ok hlv ⟨a, h4, rfl⟩) hh')
      · next r => cases h9; obtain ⟨t, rfl, h3⟩ := ev_rs_null hr; exact lv_astoreN hexec hb hdg hh hi rfl (fun ls' hh' => k ls' _ _ h3 (ev_st1_ok hlv rfl) hh')
      · next z r => cases h9; obtain ⟨y, t, rfl, h2, h3⟩ := ev_rs_cons hr; obtain ⟨a, rfl⟩ := ev_r_ra h2; exact lv_astore hexec hb hdg hh hi rfl (fun ls' hh' => k ls' _ _ h3 (ev_st1_ok hlv h2) hh')
      · cases h9
    · cases h9
  | astore_n q =>
    obtain ⟨rfl, h9⟩ := ev_g_ok h
    split at h9
    · next hd =>
      have hi := of_decide_eq_true hd
      split at h9
      · next z r => cases h9; obtain ⟨y, t, rfl, h2, h3⟩ := ev_rs_cons hr; obtain ⟨a, h4, rfl⟩ := h2; exact lv_astore_n hexec hb hdg rfl hh hi rfl (fun ls' hh' => k ls' _ _ h3 (ev_st1_ok hlv ⟨a, h4, rfl⟩) hh')
      · next r => cases h9; obtain ⟨t, rfl, h3⟩ := ev_rs_null hr; exact lv_astore_nN hexec hb hdg rfl hh hi rfl (fun ls' hh' => k ls' _ _ h3 (ev_st1_ok hlv rfl) hh')
      · next z r => cases h9; obtain ⟨y, t, rfl, h2, h3⟩ := ev_rs_cons hr; obtain ⟨a, rfl⟩ := ev_r_ra h2; exact lv_astore_n hexec hb hdg rfl hh hi rfl (fun ls' hh' => k ls' _ _ h3 (ev_st1_ok hlv h2) hh')
      · cases h9
    · cases h9
  | istore i =>
    obtain ⟨rfl, h9⟩ := ev_g_ok h
    split at h9
    · next hd =>
      have hi := of_decide_eq_true hd
      split at h9
      · next z r => cases h9; obtain ⟨t, rfl, h3⟩ := ev_rs_int hr; exact lv_istore hexec hb hdg hh hi rfl (fun ls' hh' => k ls' _ _ h3 (ev_st1_ok hlv rfl) hh')
      · cases h9
    · cases h9
  | istore_n q =>
    obtain ⟨rfl, h9⟩ := ev_g_ok h
    split at h9
    · next hd =>
      have hi := of_decide_eq_true hd
      split at h9
      · next z r => cases h9; obtain ⟨t, rfl, h3⟩ := ev_rs_int hr; exact lv_istore_n hexec hb hdg rfl hh hi rfl (fun ls' hh' => k ls' _ _ h3 (ev_st1_ok hlv rfl) hh')
      · cases h9
    · cases h9
  | lstore i =>
    obtain ⟨rfl, h9⟩ := ev_g_ok h
    split at h9
    · next hd =>
      have hi := of_decide_eq_true hd
      split at h9
      · next z r => cases h9; obtain ⟨t, rfl, h3⟩ := ev_rs_long hr; exact lv_lstore hexec hb hdg hh hi rfl (fun ls' hh' => k ls' _ _ h3 (ev_st2_ok hlv rfl) hh')
      · cases h9
    · cases h9
  | lstore_n q =>
    obtain ⟨rfl, h9⟩ := ev_g_ok h
    split at h9
    · next hd =>
      have hi := of_decide_eq_true hd
      split at h9
      · next z r => cases h9; obtain ⟨t, rfl, h3⟩ := ev_rs_long hr; exact lv_lstore_n hexec hb hdg rfl hh hi rfl (fun ls' hh' => k ls' _ _ h3 (ev_st2_ok hlv rfl) hh')
      · cases h9
    · cases h9
  | iinc i n =>
    obtain ⟨rfl, h9⟩ := ev_g_ok h
    split at h9
    · next hd =>
      have hi := of_decide_eq_true hd
      split at h9
      · next x e => cases h9; obtain ⟨j, y, h1, h2⟩ := ev_lk_at hlv e; cases h2; exact lv_iinc hexec hb hdg hh h1 rfl hi rfl (fun ls' hh' => k ls' _ _ hr (ev_st1_ok hlv rfl) hh')
      · cases h9
    · cases h9
  | iconst n =>
    obtain ⟨rfl, h9⟩ := ev_g_ok h
    cases h9
    exact lv_iconst hexec hb hdg rfl (k ls lvc _ ⟨rfl, hr⟩ hlv hh)
  | bipush n =>
    obtain ⟨rfl, h9⟩ := ev_g_ok h
    cases h9
    exact lv_bipush hexec hb hdg rfl (k ls lvc _ ⟨rfl, hr⟩ hlv hh)
  | sipush n =>
    obtain ⟨rfl, h9⟩ := ev_g_ok h
    cases h9
    exact lv_sipush hexec hb hdg rfl (k ls lvc _ ⟨rfl, hr⟩ hlv hh)
  | lconst n =>
    obtain ⟨rfl, h9⟩ := ev_g_ok h
    cases h9
    exact lv_lconst hexec hb hdg rfl (k ls lvc _ ⟨rfl, hr⟩ hlv hh)
  | iadd =>
    obtain ⟨rfl, h9⟩ := ev_g_ok h
    split at h9
    · next y x r => cases h9; obtain ⟨t, rfl, h1⟩ := ev_rs_int hr; obtain ⟨t2, rfl, h2⟩ := ev_rs_int h1; exact lv_iadd hexec hb hdg (k ls lvc _ ⟨rfl, h2⟩ hlv hh)
    · cases h9
  | isub =>
    obtain ⟨rfl, h9⟩ := ev_g_ok h
    split at h9
    · next y x r => cases h9; obtain ⟨t, rfl, h1⟩ := ev_rs_int hr; obtain ⟨t2, rfl, h2⟩ := ev_rs_int h1; exact lv_isub hexec hb hdg (k ls lvc _ ⟨rfl, h2⟩ hlv hh)
    · cases h9
  | imul =>
    obtain ⟨rfl, h9⟩ := ev_g_ok h
    split at h9
    · next y x r => cases h9; obtain ⟨t, rfl, h1⟩ := ev_rs_int hr; obtain ⟨t2, rfl, h2⟩ := ev_rs_int h1; exact lv_imul hexec hb hdg (k ls lvc _ ⟨rfl, h2⟩ hlv hh)
    · cases h9
  | iand =>
    obtain ⟨rfl, h9⟩ := ev_g_ok h
    split at h9
    · next y x r => cases h9; obtain ⟨t, rfl, h1⟩ := ev_rs_int hr; obtain ⟨t2, rfl, h2⟩ := ev_rs_int h1; exact lv_iand hexec hb hdg (k ls lvc _ ⟨rfl, h2⟩ hlv hh)
    · cases h9
  | ior =>
    obtain ⟨rfl, h9⟩ := ev_g_ok h
    split at h9
    · next y x r => cases h9; obtain ⟨t, rfl, h1⟩ := ev_rs_int hr; obtain ⟨t2, rfl, h2⟩ := ev_rs_int h1; exact lv_ior hexec hb hdg (k ls lvc _ ⟨rfl, h2⟩ hlv hh)
    · cases h9
  | ixor =>
    obtain ⟨rfl, h9⟩ := ev_g_ok h
    split at h9
    · next y x r => cases h9; obtain ⟨t, rfl, h1⟩ := ev_rs_int hr; obtain ⟨t2, rfl, h2⟩ := ev_rs_int h1; exact lv_ixor hexec hb hdg (k ls lvc _ ⟨rfl, h2⟩ hlv hh)
    · cases h9
  | ishl =>
    obtain ⟨rfl, h9⟩ := ev_g_ok h
    split at h9
    · next y x r => cases h9; obtain ⟨t, rfl, h1⟩ := ev_rs_int hr; obtain ⟨t2, rfl, h2⟩ := ev_rs_int h1; exact lv_ishl hexec hb hdg (k ls lvc _ ⟨rfl, h2⟩ hlv hh)
    · cases h9
  | ishr =>
    obtain ⟨rfl, h9⟩ := ev_g_ok h
    split at h9
    · next y x r => cases h9; obtain ⟨t, rfl, h1⟩ := ev_rs_int hr; obtain ⟨t2, rfl, h2⟩ := ev_rs_int h1; exact lv_ishr hexec hb hdg (k ls lvc _ ⟨rfl, h2⟩ hlv hh)
    · cases h9
  | iushr =>
    obtain ⟨rfl, h9⟩ := ev_g_ok h
    split at h9
    · next y x r => cases h9; obtain ⟨t, rfl, h1⟩ := ev_rs_int hr; obtain ⟨t2, rfl, h2⟩ := ev_rs_int h1; exact lv_iushr hexec hb hdg rfl (k ls lvc _ ⟨rfl, h2⟩ hlv hh)
    · cases h9
  | idiv =>
    obtain ⟨rfl, h9⟩ := ev_g_ok h
    split at h9
    · next y x r =>
      split at h9
      · cases h9
      · next hd => cases h9; obtain ⟨t, rfl, h1⟩ := ev_rs_int hr; obtain ⟨t2, rfl, h2⟩ := ev_rs_int h1; exact lv_idiv hexec hb hdg (of_decide_eq_false hd) (k ls lvc _ ⟨rfl, h2⟩ hlv hh)
    · cases h9
  | irem =>
    obtain ⟨rfl, h9⟩ := ev_g_ok h
    split at h9
    · next y x r =>
      split at h9
      · cases h9
      · next hd => cases h9; obtain ⟨t, rfl, h1⟩ := ev_rs_int hr; obtain ⟨t2, rfl, h2⟩ := ev_rs_int h1; exact lv_irem hexec hb hdg (of_decide_eq_false hd) (k ls lvc _ ⟨rfl, h2⟩ hlv hh)
    · cases h9
  | ladd =>
    obtain ⟨rfl, h9⟩ := ev_g_ok h
    split at h9
    · next y x r => cases h9; obtain ⟨t, rfl, h1⟩ := ev_rs_long hr; obtain ⟨t2, rfl, h2⟩ := ev_rs_long h1; exact lv_ladd hexec hb hdg (k ls lvc _ ⟨rfl, h2⟩ hlv hh)
    · cases h9
  | lsub =>
    obtain ⟨rfl, h9⟩ := ev_g_ok h
    split at h9
    · next y x r => cases h9; obtain ⟨t, rfl, h1⟩ := ev_rs_long hr; obtain ⟨t2, rfl, h2⟩ := ev_rs_long h1; exact lv_lsub hexec hb hdg (k ls lvc _ ⟨rfl, h2⟩ hlv hh)
    · cases h9
  | lmul =>
    obtain ⟨rfl, h9⟩ := ev_g_ok h
    split at h9
    · next y x r => cases h9; obtain ⟨t, rfl, h1⟩ := ev_rs_long hr; obtain ⟨t2, rfl, h2⟩ := ev_rs_long h1; exact lv_lmul hexec hb hdg (k ls lvc _ ⟨rfl, h2⟩ hlv hh)
    · cases h9
  | land =>
    obtain ⟨rfl, h9⟩ := ev_g_ok h
    split at h9
    · next y x r => cases h9; obtain ⟨t, rfl, h1⟩ := ev_rs_long hr; obtain ⟨t2, rfl, h2⟩ := ev_rs_long h1; exact lv_land hexec hb hdg (k ls lvc _ ⟨rfl, h2⟩ hlv hh)
    · cases h9
  | lor =>
    obtain ⟨rfl, h9⟩ := ev_g_ok h
    split at h9
    · next y x r => cases h9; obtain ⟨t, rfl, h1⟩ := ev_rs_long hr; obtain ⟨t2, rfl, h2⟩ := ev_rs_long h1; exact lv_lor hexec hb hdg (k ls lvc _ ⟨rfl, h2⟩ hlv hh)
    · cases h9
  | lxor =>
    obtain ⟨rfl, h9⟩ := ev_g_ok h
    split at h9
    · next y x r => cases h9; obtain ⟨t, rfl, h1⟩ := ev_rs_long hr; obtain ⟨t2, rfl, h2⟩ := ev_rs_long h1; exact lv_lxor hexec hb hdg (k ls lvc _ ⟨rfl, h2⟩ hlv hh)
    · cases h9
  | lshl =>
    obtain ⟨rfl, h9⟩ := ev_g_ok h
    split at h9
    · next y x r => cases h9; obtain ⟨t, rfl, h1⟩ := ev_rs_int hr; obtain ⟨t2, rfl, h2⟩ := ev_rs_long h1; exact lv_lshl hexec hb hdg rfl (k ls lvc _ ⟨rfl, h2⟩ hlv hh)
    · cases h9
  | lshr =>
    obtain ⟨rfl, h9⟩ := ev_g_ok h
    split at h9
    · next y x r => cases h9; obtain ⟨t, rfl, h1⟩ := ev_rs_int hr; obtain ⟨t2, rfl, h2⟩ := ev_rs_long h1; exact lv_lshr hexec hb hdg rfl (k ls lvc _ ⟨rfl, h2⟩ hlv hh)
    · cases h9
  | lushr =>
    obtain ⟨rfl, h9⟩ := ev_g_ok h
    split at h9
    · next y x r => cases h9; obtain ⟨t, rfl, h1⟩ := ev_rs_int hr; obtain ⟨t2, rfl, h2⟩ := ev_rs_long h1; exact lv_lushr hexec hb hdg rfl (k ls lvc _ ⟨rfl, h2⟩ hlv hh)
    · cases h9
  | lcmp =>
    obtain ⟨rfl, h9⟩ := ev_g_ok h
    split at h9
    · next y x r => cases h9; obtain ⟨t, rfl, h1⟩ := ev_rs_long hr; obtain ⟨t2, rfl, h2⟩ := ev_rs_long h1; exact W.lcmp hexec hb hdg (k ls lvc _ ⟨rfl, h2⟩ hlv hh)
    · cases h9
  | ineg =>
    obtain ⟨rfl, h9⟩ := ev_g_ok h
    split at h9
    · next x r => cases h9; obtain ⟨t, rfl, h1⟩ := ev_rs_int hr; exact lv_ineg hexec hb hdg (k ls lvc _ ⟨rfl, h1⟩ hlv hh)
    · cases h9
  | i2l =>
    obtain ⟨rfl, h9⟩ := ev_g_ok h
    split at h9
    · next x r => cases h9; obtain ⟨t, rfl, h1⟩ := ev_rs_int hr; exact lv_i2l hexec hb hdg rfl (k ls lvc _ ⟨rfl, h1⟩ hlv hh)
    · cases h9
  | l2i =>
    obtain ⟨rfl, h9⟩ := ev_g_ok h
    split at h9
    · next x r => cases h9; obtain ⟨t, rfl, h1⟩ := ev_rs_long hr; exact lv_l2i hexec hb hdg rfl (k ls lvc _ ⟨rfl, h1⟩ hlv hh)
    · cases h9
  | i2b =>
    obtain ⟨rfl, h9⟩ := ev_g_ok h
    split at h9
    · next x r => cases h9; obtain ⟨t, rfl, h1⟩ := ev_rs_int hr; exact lv_i2b hexec hb hdg rfl (k ls lvc _ ⟨rfl, h1⟩ hlv hh)
    · cases h9
  | i2c =>
    obtain ⟨rfl, h9⟩ := ev_g_ok h
    split at h9
    · next x r => cases h9; obtain ⟨t, rfl, h1⟩ := ev_rs_int hr; exact lv_i2c hexec hb hdg rfl (k ls lvc _ ⟨rfl, h1⟩ hlv hh)
    · cases h9
  | dup =>
    obtain ⟨rfl, h9⟩ := ev_g_ok h
    split at h9
    · next a r =>
      split at h9
      · next hc => cases h9; obtain ⟨y, t, rfl, h2, h3⟩ := ev_rs_cons hr; exact lv_dup hexec hb hdg ((ev_r_cat h2).trans (Nat.eq_of_beq_eq_true hc)) (k ls lvc _ ⟨h2, h2, h3⟩ hlv hh)
      · cases h9
    · cases h9
  | pop =>
    obtain ⟨rfl, h9⟩ := ev_g_ok h
    split at h9
    · next a r =>
      split at h9
      · next hc => cases h9; obtain ⟨y, t, rfl, h2, h3⟩ := ev_rs_cons hr; exact lv_pop hexec hb hdg ((ev_r_cat h2).trans (Nat.eq_of_beq_eq_true hc)) (k ls lvc _ h3 hlv hh)
      · cases h9
    · cases h9
  | dup2 =>
    obtain ⟨rfl, h9⟩ := ev_g_ok h
    split at h9
    · next a a2 r =>
      split at h9
      · next hc =>
        split at h9
        · next hc2 => cases h9; obtain ⟨y, t, rfl, h2, h3⟩ := ev_rs_cons hr; obtain ⟨y2, t2, rfl, h4, h5⟩ := ev_rs_cons h3; exact lv_dup2_11 hexec hb hdg ((ev_r_cat h2).trans (Nat.eq_of_beq_eq_true hc)) ((ev_r_cat h4).trans (Nat.eq_of_beq_eq_true hc2)) (k ls lvc _ ⟨h2, h4, h2, h4, h5⟩ hlv hh)
        · cases h9
      · cases h9
    · cases h9
  | ifCond q off =>
    obtain ⟨rfl, h9⟩ := ev_g_ok h
    split at h9
    · next x r =>
      split at h9
      · next t ht => cases h9; obtain ⟨t2, rfl, h1⟩ := ev_rs_int hr; exact ev_ifCond_ok hexec hb hdg ht (k ls lvc _ h1 hlv hh)
      · cases h9
    · cases h9
  | if_icmp q off =>
    obtain ⟨rfl, h9⟩ := ev_g_ok h
    split at h9
    · next y x r =>
      split at h9
      · next t ht => cases h9; obtain ⟨t2, rfl, h1⟩ := ev_rs_int hr; obtain ⟨t3, rfl, h2⟩ := ev_rs_int h1; exact ev_if_icmp_ok hexec hb hdg ht (k ls lvc _ h2 hlv hh)
      · cases h9
    · cases h9
  | goto off =>
    obtain ⟨rfl, h9⟩ := ev_g_ok h
    split at h9
    · next t ht => cases h9; exact lv_goto hexec hb hdg (ev_tg_ok ht) (k ls lvc _ hr hlv hh)
    · cases h9
  | ifnull off =>
    obtain ⟨rfl, h9⟩ := ev_g_ok h
    split at h9
    · next r =>
      split at h9
      · next t ht => cases h9; obtain ⟨t2, rfl, h1⟩ := ev_rs_null hr; exact lv_ifnullN hexec hb hdg (ev_tg_ok ht) (k ls lvc _ h1 hlv hh)
      · cases h9
    · next z r => cases h9; obtain ⟨a, t2, rfl, -, h1⟩ := ev_rs_ref hr; exact lv_ifnull hexec hb hdg (k ls lvc _ h1 hlv hh)
    · cases h9
  | ifnonnull off =>
    obtain ⟨rfl, h9⟩ := ev_g_ok h
    split at h9
    · next z r =>
      split at h9
      · next t ht => cases h9; obtain ⟨a, t2, rfl, -, h1⟩ := ev_rs_ref hr; exact lv_ifnonnull hexec hb hdg (ev_tg_ok ht) (k ls lvc _ h1 hlv hh)
      · cases h9
    · next r => cases h9; obtain ⟨t2, rfl, h1⟩ := ev_rs_null hr; exact lv_ifnonnullN hexec hb hdg (k ls lvc _ h1 hlv hh)
    · cases h9
  | tableswitch d lo hi offs =>
    obtain ⟨x, r, off, t, rfl, ht, hcase, e⟩ := ev_tsw_ok (show ev_tsw pc lv d lo hi offs st = some (pc', lv', st') from h)
    cases e
    obtain ⟨t2, rfl, h1⟩ := ev_rs_int hr
    rcases hcase with ⟨hd, rfl⟩ | ⟨hd, ho⟩
    · exact lv_tableOut hexec hb hdg hd (ev_tg_ok ht) (k ls lvc _ h1 hlv hh)
    · exact lv_tableIn hexec hb hdg (fun q => hd (Or.inl q)) (fun q => hd (Or.inr q)) ho (ev_tg_ok ht) (k ls lvc _ h1 hlv hh)
  | lookupswitch d ps =>
    obtain ⟨x, r, t, rfl, ht, hd, e⟩ := ev_lsw_ok (show ev_lsw pc lv d ps st = some (pc', lv', st') from h)
    cases e
    obtain ⟨t2, rfl, h1⟩ := ev_rs_int hr
    exact lv_lookup hexec hb hdg hd rfl (ev_tg_ok ht) (k ls lvc _ h1 hlv hh)
  | _ => exact absurd (show (none : Option (Nat × List (Nat × Value) × List Value)) = some (pc', lv', st') from h) (fun q => by cases q)
end EVP
