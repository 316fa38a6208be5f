section EVY
variable {p : Program} {l : Launch} {e : Env} {R : Room} {s : State} {m : MethodId} {args : Array Value} {below : List Frame} {meth : Method} {c : Code} {H : Heap} {locs : List Loc} {cells slots : Nat} {Q : State → Prop}
variable {cl : List vw_C}
variable {TS nw : List Jvm.Cond} {nc : List (String × String)} {sr : List (String × Nat × String)} {ov : List FieldType} {CN : Nat → String} {PE : Nat → ev_T} {Y : Nat → MethodName} {B : Nat → ByteArray} {P : Nat → Option ev_M} {L : Nat → Nat → Option ev_L} {M : ev_M} {d : Nat} {ft : Nat → Nat → FieldType} {nf : Nat → Nat} {TX : Nat → Nat → Nat → Option (String × Nat × String)}
theorem ev_rs_nil {ad : List Nat} {b : Nat} {l : List Value} (h : ev_rs ad b [] l) : l = [] := by
  cases l with
  | nil => rfl
  | cons x l => exact h.elim
theorem ev_rs_one {ad : List Nat} {b : Nat} {x : Value} {l : List Value} (h : ev_rs ad b [x] l) : ∃ y, l = [y] ∧ ev_r ad b x y := by
  obtain ⟨y, t, rfl, h1, h2⟩ := ev_rs_cons h
  obtain rfl := ev_rs_nil h2
  exact ⟨y, rfl, h1⟩
theorem ev_QcOf {D : va_G} {A : Nat → Prop} {v v' : Option Value} {ad adF : List Nat} {b n : Nat} {hF : List ev_E} {a : Array Value} (hz : ∃ z, adF = ad ++ z) (hJ : ev_J D cl A s s.heap H locs adF b hF n) (hro : ev_ro adF b v v') : ∀ t : State, t.heap = H → s.WarmedH t.vm → ev_Qc D cl v ad b hF n A a s (.returned v') t := by
  intro t ht hW
  obtain ⟨ws, hP, hD, hS, hWW, hn⟩ := hJ
  exact ⟨⟨v', adF, rfl, hro, hz, ws, by rw [ht]; exact hP, hD, ev_W_moved hW.alike hWW, hn⟩, hS.F ht⟩
/-- the end of a body that answers -/
theorem ev_ends {cc : ByteArray} {D : va_G} {A : Nat → Prop} {pc b n mc ms : Nat} {v : Option Value} {st stc : List Value} {hF : List ev_E} {ad adF : List Nat} {ls : Array Slot} (hx : p.tables.exec = Jvm.exec) (hb : c.code = cc) (hr : meth.sig.returnType = M.2.2.2.2.2.2.1) (hlocks : meth.locks = false) (hdec : ∀ pc i len, M.1 pc = some (i, len) → decode cc pc = .ok (i, len))
    (hend : (M.1 pc = some (.return_, 1) ∧ st = [] ∧ v = none ∧ M.2.2.2.2.2.2.1 = none) ∨ (∃ x ty, M.1 pc = some (.ireturn, 1) ∧ st = [.int x] ∧ v = some (.int x) ∧ M.2.2.2.2.2.2.1 = some ty ∧ ev_retOk ty (.int x) = true) ∨ (∃ x, M.1 pc = some (.lreturn, 1) ∧ st = [.long x] ∧ v = some (.long x) ∧ M.2.2.2.2.2.2.1 = some .long) ∨ (∃ x C, M.1 pc = some (.areturn, 1) ∧ st = [x] ∧ v = some x ∧ M.2.2.2.2.2.2.1 = some (.object C) ∧ ev_retOk (.object C) x = true))
    (hz : ∃ z, adF = ad ++ z) (hJ : ev_J D cl A s s.heap H locs adF b hF n) (hrs : ev_rs adF b st stc) :
    W p l e R s m args below meth c H locs mc ms (MQ below (ev_Qc D cl v ad b hF n A) args s mc ms A) (F0 m pc ls stc) := by
  have hS : ∀ q ∈ locs, A q.base := by
    obtain ⟨ws, -, -, hS, -, -⟩ := hJ
    exact hS.2.2
  rcases hend with ⟨h1, rfl, rfl, h2⟩ | ⟨x, ty, h1, rfl, rfl, h2, h3⟩ | ⟨x, h1, rfl, rfl, h2⟩ | ⟨x, C, h1, rfl, rfl, h2, h3⟩
  · obtain rfl := ev_rs_nil hrs
    exact W.vret hx hb (by rw [hr, h2]) (ev_QcOf (v := none) (v' := none) hz hJ trivial) hS (hdec _ _ _ h1) hlocks
  · obtain ⟨y, rfl, h4⟩ := ev_rs_one hrs
    cases h4
    exact W.zret (ty := ty) hx hb (by rw [hr, h2]) (ev_retOk_ok h3) (ev_QcOf (v := some (.int x)) (v' := some (.int x)) hz hJ rfl) hS (hdec _ _ _ h1) hlocks
  · obtain ⟨y, rfl, h4⟩ := ev_rs_one hrs
    cases h4
    exact W.lret hx hb (by rw [hr, h2]) (ev_QcOf (v := some (.long x)) (v' := some (.long x)) hz hJ rfl) hS (hdec _ _ _ h1) hlocks
  · obtain ⟨y, rfl, h4⟩ := ev_rs_one hrs
    exact W.aret (rt := .object C) hx hb (by rw [hr, h2]) (Or.inl ⟨C, rfl⟩) (ev_retO_ok h3 h4) (ev_QcOf (v := some x) (v' := some y) hz hJ h4) hS (hdec _ _ _ h1) hlocks
/-- the end of a body that throws -/
theorem ev_throws {cc : ByteArray} {D : va_G} {A : Nat → Prop} {pc x b n nc9 ns mc ms : Nat} {E : String} {st stc : List Value} {hF : List ev_E} {ad adF : List Nat} {ls : Array Slot} (hl : l.stackTraces = false) (hx : p.tables.exec = Jvm.exec) (hb : c.code = cc) (hml : c.maxLocals = M.2.1) (hlocks : meth.locks = false) (hdec : ∀ pc i len, M.1 pc = some (i, len) → decode cc pc = .ok (i, len)) (hTS : ∀ w ∈ TS, goodWord w = true) (hnw : ∀ w ∈ nw, ev_sw w = true)
    (hown : s.vm.findClass (CN M.2.2.1) = some m.cls) (hts : ∀ w ∈ TS, w.before args s = true) (htab : c.exceptionTable.toList = []) (hTX : ∀ x is q, TX M.2.2.1 x is = some q → ev_xOk TS nw sr CN M.2.2.1 x is q) (hFF : ev_F ov nw nc sr A s s.heap)
    (hi : M.1 pc = some (.new x, 3)) (hth : ev_thr M TX pc x st = some E) (h6 : 6 ≤ R.frames) (hlo : 120 ≤ R.locals) (hmc : nc9 + 1 ≤ R.cells) (hms : ns + 6 ≤ R.slots) (hmc2 : nc9 + 1 ≤ mc) (hms2 : ns + 6 ≤ ms)
    (hz : ∃ z, adF = ad ++ z) (hJ : ev_J D cl A s s.heap H locs adF b hF n) (hrs : ev_rs adF b st stc) (hls : ls.size = M.2.1) :
    W p l e R s m args below meth c H locs nc9 ns (vx_MQ below (fun _ _ _ _ => False) (ev_XC D cl E ad b hF n A) args s mc ms A) (F0 m pc ls stc) := by
  obtain ⟨is, ic, tx, z9, t1, rfl, t3, t4, t5, t6, t7⟩ := ev_thr_ok hth
  obtain rfl := ev_rs_nil hrs
  obtain ⟨x1, x2, x3, x4, x5⟩ := hTX _ _ _ t1
  obtain ⟨f1, f2, f3, f4, f5, f6⟩ := hFF
  obtain ⟨sa, hsa⟩ := f6 _ x3
  obtain ⟨ws, hP, hD, hS, hWW, hn⟩ := hJ
  have hot : ∀ w ∈ nw, w.onTables = true := fun w hw => by
    have h9 := hnw w hw
    cases w <;> first | (cases h9; done) | rfl
  have hat : ∀ w ∈ vx_atS (CN M.2.2.1) ic E ev_names, w.before args s = true := fun w hw => by
    rcases x4 w hw with h | h
    · exact hts w h
    · exact va_Nw.use (hot w h) (f2 w h)
  have hgood : ∀ w ∈ Jvm.Cond.classLink (CN M.2.2.1) x E :: Jvm.Cond.initialized E :: vx_atS (CN M.2.2.1) ic E ev_names, vx_ot w = true := fun w hw => by
    unfold vx_ot
    rw [Bool.or_eq_true]
    rcases List.mem_cons.mp hw with rfl | hw
    · exact Or.inr (hTS _ x1)
    · rcases List.mem_cons.mp hw with rfl | hw
      · exact Or.inr (hTS _ x2)
      · rcases x4 w hw with h | h
        · exact Or.inr (hTS _ h)
        · exact Or.inl (hot w h)
  have hk : ∀ t : State, s.vm.Alike t.vm → H.size ≤ t.heap.size → (∀ q : Nat, q < H.size → t.heap[q]? = H[q]?) → ev_XC D cl E ad b hF n A E s t := fun t ha hs hk =>
    ⟨rfl, ⟨adF, hz, ws, hP.kept (fun k q hq => hk q.1 ((hP k q hq).lt)), hD, ev_W_moved ha hWW, hn⟩, Nat.le_trans hS.1 hs, fun q h1 h2 => (hk q (Nat.lt_of_lt_of_le h1 hS.1)).trans (hS.2.1 q h1 h2)⟩
  rcases t5 with ⟨t5, rfl⟩ | ⟨t5, rfl⟩
  · exact vx_throwS hx hb hl (names := ev_names) hown x5 (by decide +kernel) (hts _ x1) (hts _ x2) hsa hat hgood f4 f5 hS (by rw [hml]; exact hls) (hdec _ _ _ hi) (hdec _ _ _ t4) (hdec _ _ _ t5) (hdec _ _ _ t6) (hdec _ _ _ t7) (fun z hz9 => by rw [htab] at hz9; cases hz9) (by show 2 + 3 < R.frames; omega) (by show 0 + (13 * (2 + 1) + 43) ≤ R.locals; omega) hmc hms hlocks hk hS.2.2 hmc2 hms2
  · exact vx_throwSW hx hb hl (names := ev_names) hown x5 (by decide +kernel) (hts _ x1) (hts _ x2) hsa hat hgood f4 f5 hS (by rw [hml]; exact hls) (hdec _ _ _ hi) (hdec _ _ _ t4) (hdec _ _ _ t5) (hdec _ _ _ t6) (hdec _ _ _ t7) (fun z hz9 => by rw [htab] at hz9; cases hz9) (by show 2 + 3 < R.frames; omega) (by show 0 + (13 * (2 + 1) + 43) ≤ R.locals; omega) hmc hms hlocks hk hS.2.2 hmc2 hms2
set_option maxHeartbeats 4000000 in
/-- EVERY CALL of the evaluator is a contract of the machine -/
theorem ev_call_ok (G : ev_All l TS nw nc sr cl ov CN ft nf PE L TX Y B P) {fuel : Nat} : ∀ (d mi : Nat) (M : ev_M) (as : List Value) (h : List ev_E) (n : Nat) (z : ev_Z), P mi = some M → ev_call CN ft nf PE L TX P fuel d mi as h n = some z → ev_Con l TS nw nc sr cl ov Y B d mi M as h n z
  | 0, _, _, _, _, _, _, _, hc => by cases hc
  | d + 1, mi, M, as, h, n, z, hM, hc => by
    have ih := ev_call_ok G (fuel := fuel) d
    unfold ev_call at hc
    rw [hM] at hc
    dsimp only at hc
    split at hc
    · next hsum =>
      have hsum := Nat.le_of_ble_eq_true hsum
      split at hc
      · next r hrun =>
        obtain ⟨z1, hF, nF, mc, ms⟩ := z
        have G' := G
        obtain ⟨hl, hTS, hov, hnw, hP, hL, hTX, hcl, hac⟩ := G
        obtain ⟨m1, m2, m3, m4, m5, m6, ⟨m7, m8⟩, m9, m10, m11⟩ := hP _ _ hM
        cases z1 with
        | inl v =>
          intro D as' sz b ad ws hr
          obtain ⟨pcF, stF, rfl, hend⟩ := ev_end_inl hc
          by_cases hhd : M.2.2.2.2.2.2.2 = []
          · refine Met.ofW (cc := B mi) (maxL := M.2.1) (ret := M.2.2.2.2.2.2.1) m5 (by rw [ev_cw_nil hhd]) ?_
            intro p e s m args below meth c s₁ Bd hml hv
            have hts := atoms_spec (ws := ev_cw Y B mi M :: TS) Bd.pre
            obtain rfl : s.heap.size = sz := hv.2.1
            have htab : c.exceptionTable.toList = [] := ev_tab0 Bd (by have h9 := hts _ List.mem_cons_self; rw [ev_cw_nil hhd] at h9; exact h9)
            exact ev_body G' hM ih Bd.exec Bd.bytes hml (findClass_of_methodNamed Bd.named) (fun w hw => hts w (List.mem_cons_of_mem _ hw)) (name_of_methodNamed Bd.named Bd.method).1 (by rw [htab, hhd]; rfl) (Nat.le_refl _) (Nat.le_refl _) hv hr hsum hrun (Nat.le_refl _) (Nat.le_refl _) (fun HF locsF lsF stcF adF hz hJ hrs hls => ev_ends Bd.exec Bd.bytes Bd.returns Bd.notSynchronized m1 hend hz hJ hrs)
          · refine va_MetW (cc := B mi) (maxL := M.2.1) (ret := M.2.2.2.2.2.2.1) m5 (by rw [ev_cw_cons hhd]) ?_
            intro p e s m args below meth c s₁ Bd hml hv
            have hts := atoms_spec (ws := ev_cw Y B mi M :: TS) Bd.pre
            obtain rfl : s.heap.size = sz := hv.2.1
            have htab : c.exceptionTable.toList = tableOf (M.2.2.2.2.2.2.2.map (fun z => z.1)) := vx_table (x := Y mi) Bd (by have h9 := hts _ List.mem_cons_self; rw [ev_cw_cons hhd] at h9; exact h9)
            exact ev_body G' hM ih Bd.exec Bd.bytes hml (findClass_of_methodNamed Bd.named) (fun w hw => hts w (List.mem_cons_of_mem _ hw)) (name_of_methodNamed Bd.named Bd.method).1 htab (Nat.le_refl _) (Nat.le_refl _) hv hr hsum hrun (Nat.le_refl _) (Nat.le_refl _) (fun HF locsF lsF stcF adF hz hJ hrs hls => ev_ends Bd.exec Bd.bytes Bd.returns Bd.notSynchronized m1 hend hz hJ hrs)
        | inr E =>
          intro D as' sz b ad ws hr
          obtain ⟨pcF, stF, hh9, n9, nc9, ns9, x9, rfl, e9, hi, hth, h6⟩ := ev_end_inr hc
          cases e9
          obtain ⟨is, ic, tx, z9, t1, t2, hhd, -⟩ := ev_thr_ok hth
          refine vx_ofW (cc := B mi) (maxL := M.2.1) (ret := M.2.2.2.2.2.2.1) m5 (by rw [ev_cw_nil hhd]) ?_
          intro p e s m args below meth c s₁ Bd hml ht0 hv
          have hts := atoms_spec (ws := ev_cw Y B mi M :: TS) Bd.pre
          obtain rfl : s.heap.size = sz := hv.2.1
          have htab : c.exceptionTable.toList = [] := ev_tab0 Bd (by have h9 := hts _ List.mem_cons_self; rw [ev_cw_nil hhd] at h9; exact h9)
          have hts2 : ∀ w ∈ TS, w.before args s = true := fun w hw => hts w (List.mem_cons_of_mem _ hw)
          have hown : s.vm.findClass (CN M.2.2.1) = some m.cls := by rw [← m3]; exact findClass_of_methodNamed Bd.named
          exact ev_body G' hM ih Bd.exec Bd.bytes hml (findClass_of_methodNamed Bd.named) hts2 (name_of_methodNamed Bd.named Bd.method).1 (by rw [htab, hhd]; rfl) (Nat.le_refl _) (Nat.le_refl _) hv hr hsum hrun (Nat.le_succ _) (Nat.le_add_right _ 6) (fun HF locsF lsF stcF adF hz hJ hrs hls => ev_throws hl Bd.exec Bd.bytes hml Bd.notSynchronized m1 hTS hnw hown hts2 htab (hTX _ _ hM) hv.2.2.2.2.2.2.2 hi hth h6 (by show 120 ≤ 39 * (d + 1); omega) (Nat.le_refl _) (Nat.le_refl _) (Nat.le_refl _) (Nat.le_refl _) hz hJ hrs hls)
      · cases hc
    · cases hc
end EVY
