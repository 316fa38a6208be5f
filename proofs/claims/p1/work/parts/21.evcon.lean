section EVZ
variable {p : Program} {l : Launch} {e : Env} {R : Room} {s : State} {m : MethodId} {args : Array Value} {below : List Frame} {meth : Method} {c : Code} {H : Heap} {locs : List Loc} {cells slots : Nat} {Q : State → Prop}
variable {cl : List vw_C}
variable {TS nw : List Jvm.Cond} {nc : List (String × String)} {sr : List (String × Nat × String)} {ov : List FieldType} {CN : Nat → String} {PE : Nat → ev_T} {Y : Nat → MethodName} {B : Nat → ByteArray} {P : Nat → Option ev_M} {L : Nat → Nat → Option ev_L} {M : ev_M} {d : Nat} {ft : Nat → Nat → FieldType} {nf : Nat → Nat} {TX : Nat → Nat → Nat → Option (String × Nat × String)}
theorem ev_slen : ∀ l : List Value, (lg_sl l).length = ev_sum l
  | [] => rfl
  | v :: l => by
    have ih := ev_slen l
    unfold lg_sl at ih ⊢
    rw [List.flatMap_cons, List.length_append, ih]
    show _ = v.category + ev_sum l
    rcases lv_cat v with h | h <;> simp [h]
theorem ev_args_ok {ad : List Nat} {b : Nat} : ∀ {as as' : List Value} (i : Nat), ev_rs ad b as as' → ev_ls ad b (lv_args i as) (lv_args i as')
  | [], [], _, _ => trivial
  | [], _ :: _, _, h => h.elim
  | _ :: _, [], _, h => h.elim
  | x :: as, y :: as', i, h => by
    refine ⟨⟨rfl, h.1⟩, ?_⟩
    rw [ev_r_cat h.1]
    exact ev_args_ok _ h.2
theorem ev_sum_eq {ad : List Nat} {b : Nat} {as as' : List Value} (h : ev_rs ad b as as') : ev_sum as' = ev_sum as := by
  have : ∀ l : List Value, (l.map fun v => v.category).sum = ev_sum l := fun l => by
    induction l with
    | nil => rfl
    | cons v l ih => rw [List.map_cons, List.sum_cons, ih]; rfl
  rw [← this, ev_sum_ok h]
/-- what is known of exceptions that are thrown with a text -/
def ev_names : List String := ["java/lang/RuntimeException", "java/lang/Exception"]
def ev_xOk (TS nw : List Jvm.Cond) (sr : List (String × Nat × String)) (CN : Nat → String) (o x is : Nat) (q : String × Nat × String) : Prop :=
  Jvm.Cond.classLink (CN o) x q.1 ∈ TS ∧ Jvm.Cond.initialized q.1 ∈ TS ∧ (CN o, is, q.2.2) ∈ sr ∧ (∀ w ∈ vx_atS (CN o) q.2.1 q.1 ev_names, w ∈ TS ∨ w ∈ nw) ∧ Bundle.fit q.1 = true
/-- all that is fixed for a launch -/
def ev_All (l : Launch) (TS nw : List Jvm.Cond) (nc : List (String × String)) (sr : List (String × Nat × String)) (cl : List vw_C) (ov : List FieldType) (CN : Nat → String) (ft : Nat → Nat → FieldType) (nf : Nat → Nat) (PE : Nat → ev_T) (L : Nat → Nat → Option ev_L) (TX : Nat → Nat → Nat → Option (String × Nat × String)) (Y : Nat → MethodName) (B : Nat → ByteArray) (P : Nat → Option ev_M) : Prop :=
  l.stackTraces = false ∧ (∀ w ∈ TS, goodWord w = true) ∧ ev_ovOk ov ∧ (∀ w ∈ nw, ev_sw w = true) ∧ (∀ mi M, P mi = some M → ev_mOk TS nw nc cl ov CN PE Y B mi M) ∧ (∀ mi M, P mi = some M → ∀ x q, L M.2.2.1 x = some q → ev_lOk TS nw CN Y P M.2.2.1 x q) ∧ (∀ mi M, P mi = some M → ∀ x is q, TX M.2.2.1 x is = some q → ev_xOk TS nw sr CN M.2.2.1 x is q) ∧ ev_clOk TS cl CN ft nf ∧ (∀ ty ∈ [FieldType.int, .long, .byte, .boolean], Jvm.Cond.arrayClass ty ∈ TS)
/-- a body, from its entry to where the evaluator stands still -/
theorem ev_body (G : ev_All l TS nw nc sr cl ov CN ft nf PE L TX Y B P) {mi : Nat} (hM : P mi = some M) {call : Nat → List Value → List ev_E → Nat → Option ev_Z} (hcall : ∀ mi M' as h n z, P mi = some M' → call mi as h n = some z → ev_Con l TS nw nc sr cl ov Y B d mi M' as h n z)
    {D : va_G} {as as' : List Value} {b n fuel pcF nF mc ms : Nat} {ad : List Nat} {ws : va_W} {hh hF : List ev_E} {stF : List Value}
    (hx : p.tables.exec = Jvm.exec) (hb : c.code = B mi) (hml : c.maxLocals = M.2.1) (hown : s.vm.findClass (Y mi).cls = some m.cls) (hts : ∀ w ∈ TS, w.before args s = true) (hname : meth.name = (Y mi).name) (htab : c.exceptionTable.toList = tableOf (M.2.2.2.2.2.2.2.map (fun z => z.1))) (hfr : d + 1 ≤ R.frames) (hlo : 39 * (d + 1) ≤ R.locals)
    (hpc : ev_Pc D cl ov nw nc sr as' s.heap.size ad b hh n ws args s) (hr : ev_rs ad b as as') (hsum : ev_sum as ≤ M.2.1) (hrun : ev_run (ev_one CN ft nf PE L P none M call) fuel 0 (lv_args 0 as) [] hh n 0 0 = some (pcF, stF, hF, nF, mc, ms)) (hmc : mc ≤ R.cells) (hms : ms ≤ R.slots)
    (k : ∀ (HF : Heap) (locsF : List Loc) (lsF : Array Slot) (stcF : List Value) (adF : List Nat), (∃ z, adF = ad ++ z) → ev_J D cl (va_A ws s.heap.size) s s.heap HF locsF adF b hF nF → ev_rs adF b stF stcF → lsF.size = M.2.1 → W p l e R s m args below meth c HF locsF mc ms Q (F0 m pcF lsF stcF)) :
    W p l e R s m args below meth c s.heap [] 0 0 Q (entryFrame m args M.2.1) := by
  obtain ⟨hl, hTS, hov, hnw, hP, hL, hTX, hcl, hac⟩ := G
  obtain ⟨m1, m2, m3, m4, m5, m6, ⟨m7, m8⟩, m9, m10, m11⟩ := hP _ _ hM
  obtain ⟨rfl, -, hP0, hK, hD0, hW, hn, hF0⟩ := hpc
  have hD := hD0.self (sz := s.heap.size)
  have hA : ∀ q : Nat, s.heap.size ≤ q → va_A ws s.heap.size q := fun q h => Or.inr h
  have hS : va_S (va_A ws s.heap.size) s.heap s.heap [] := va_S.rf
  have F : ev_Fix l TS nw nc sr cl ov CN PE Y B P L M p R s m as'.toArray c (B mi) D (va_A ws s.heap.size) d call :=
    ⟨hx, hb, hml, by rw [← m3]; exact hown, hts, hTS, hov, hnw, hK, hA, hF0, hP, hL _ _ hM, hcall, hfr, hlo, fun ci q hq => (hcl ci q hq).1⟩
  have hHd : ev_Hd TS nw nc CN M c := ⟨fun _ => htab, m8⟩
  have hlen : (lg_sl as').length ≤ M.2.1 := by rw [ev_slen, ev_sum_eq hr]; exact hsum
  have hlv := lv_entry as' (n := M.2.1) hlen
  rw [lg_entry_eq]
  exact ev_run_ok F hHd (fun N xs h => by cases h) hcl m11 hac (fun q => by rw [hname]; exact m4 q) m1 hmc hms fuel 0 n 0 0 (lv_args 0 as) (lv_args 0 as') [] [] hh _ ad s.heap [] hrun ⟨ws, hP0, hD, hS, hW, hn⟩ trivial (ev_args_ok 0 hr) hlv k
theorem ev_tab0 {x : MethodName} {S : Spec} {bytes : ByteArray} {maxL : Nat} {ret : Option FieldType} {s₁ : State} (Bd : BodyLoose p l x S bytes maxL ret e s m args below meth c s₁) {b2 : ByteArray} {x2 : Nat} {r2 : Option FieldType} (h : (Jvm.Cond.code x b2 x2 r2).before args s = true) : c.exceptionTable.toList = [] := by
  obtain ⟨meth9, c9, h1, h2, -, -, -, -, h7, -⟩ := Jvm.Cond.code_spec Bd.named h
  cases Option.some.inj (h1.symm.trans Bd.method)
  cases Option.some.inj (h2.symm.trans (Stand.of_body Bd).code)
  exact Array.toList_eq_nil_iff.mpr (Array.isEmpty_iff.mp h7)
end EVZ
