section EVE
variable {p : Program} {l : Launch} {e : Env} {R : Room} {s : State} {m : MethodId} {args : Array Value} {below : List Frame} {meth : Method} {c : Code} {H : Heap} {locs : List Loc} {cells slots : Nat} {Q : State → Prop}
variable {cc : ByteArray} {D : va_G} {cl : List vw_C} {A : Nat → Prop}
variable {TS nw : List Jvm.Cond} {nc : List (String × String)} {sr : List (String × Nat × String)} {ov : List FieldType} {CN : Nat → String} {PE : Nat → ev_T} {Y : Nat → MethodName} {B : Nat → ByteArray} {P : Nat → Option ev_M} {L : Nat → Nat → Option ev_L} {M : ev_M} {d : Nat} {call : Nat → List Value → List ev_E → Nat → Option ev_Z}
theorem ev_run_mono {step : Nat → List (Nat × Value) → List Value → List ev_E → Nat → Option ev_S} : ∀ {f pc n nc ns pcF nF mc ms : Nat} {lv : List (Nat × Value)} {st stF : List Value} {hh hF : List ev_E}, ev_run step f pc lv st hh n nc ns = some (pcF, stF, hF, nF, mc, ms) → nc ≤ mc ∧ ns ≤ ms
  | 0, _, _, _, _, _, _, _, _, _, _, _, _, _, h => by cases h
  | f + 1, pc, n, nc, ns, pcF, nF, mc, ms, lv, st, stF, hh, hF, h => by
    unfold ev_run at h
    split at h
    · next pc' lv' st' h' n' dc ds hs =>
      obtain ⟨h1, h2⟩ := ev_run_mono h
      exact ⟨by omega, by omega⟩
    · cases h
      exact ⟨Nat.le_refl _, Nat.le_refl _⟩
/-- a run of the evaluator is one of the machine's, up to where it stands still -/
theorem ev_run_ok {X : ev_X} {cn : Nat → String} {ft : Nat → Nat → FieldType} {nf : Nat → Nat} {b pcF nF mc ms : Nat} {stF : List Value} {hF : List ev_E}
    (F : ev_Fix l TS nw nc sr cl ov CN PE Y B P L M p R s m args c cc D A d call) (hHd : ev_Hd TS nw nc CN M c) (hXo : ev_XOk X s A b)
    (hcl : ev_clOk TS cl cn ft nf) (hpool : ev_poolOk TS cl ov (CN M.2.2.1) (PE M.2.2.1)) (hac : ∀ ty ∈ [FieldType.int, .long, .byte, .boolean], Jvm.Cond.arrayClass ty ∈ TS) (hini : M.2.2.2.1 = true → meth.name = "<init>") (hdec : ∀ pc i len, M.1 pc = some (i, len) → decode cc pc = .ok (i, len))
    (hmc : mc ≤ R.cells) (hms : ms ≤ R.slots) : ∀ (f pc n nc9 ns : Nat) (lv lvc : List (Nat × Value)) (st stc : List Value) (hh : List ev_E) (ls : Array Slot) (ad : List Nat) (H : Heap) (locs : List Loc),
    ev_run (ev_one cn ft nf PE L P X M call) f pc lv st hh n nc9 ns = some (pcF, stF, hF, nF, mc, ms) → ev_J D cl A s s.heap H locs ad b hh n → ev_rs ad b st stc → ev_ls ad b lv lvc → lv_has ls M.2.1 lvc →
    (∀ (HF : Heap) (locsF : List Loc) (lsF : Array Slot) (stcF : List Value) (adF : List Nat), (∃ z, adF = ad ++ z) → ev_J D cl A s s.heap HF locsF adF b hF nF → ev_rs adF b stF stcF → lsF.size = M.2.1 → W p l e R s m args below meth c HF locsF mc ms Q (F0 m pcF lsF stcF)) →
    W p l e R s m args below meth c H locs nc9 ns Q (F0 m pc ls stc)
  | 0, _, _, _, _, _, _, _, _, _, _, _, _, _, h, _, _, _, _, _ => by cases h
  | f + 1, pc, n, nc9, ns, lv, lvc, st, stc, hh, ls, ad, H, locs, h, hJ, hr, hlv, hh2, k => by
    unfold ev_run at h
    split at h
    · next pc' lv' st' h' n' dc ds hs =>
      obtain ⟨h1, h2⟩ := ev_run_mono h
      refine ev_one_ok F hHd hXo hcl hpool hac hini hdec hJ hr hlv hh2 hs (by omega) (by omega) (fun H1 locs1 ls1 lvc1 stc1 ad1 hz g1 g2 g3 g4 => ?_)
      obtain ⟨z, rfl⟩ := hz
      refine ev_run_ok F hHd hXo hcl hpool hac hini hdec hmc hms f pc' n' (nc9 + dc) (ns + ds) lv' lvc1 st' stc1 h' ls1 (ad ++ z) H1 locs1 h g1 g2 g3 g4 (fun HF locsF lsF stcF adF hz2 => ?_)
      obtain ⟨z2, rfl⟩ := hz2
      exact k HF locsF lsF stcF _ ⟨z ++ z2, by rw [List.append_assoc]⟩
    · cases h
      exact k H locs ls stc ad ⟨[], (List.append_nil ad).symm⟩ hJ hr hh2.1
theorem ev_retOk_ok {ty : FieldType} {x : Int32} (h : ev_retOk ty (.int x) = true) : narrow ty (.int x) = .int x := by
  cases ty <;> first | (cases h; done) | skip
  · show Value.int x.toUInt32.toUInt16.toUInt32.toInt32 = _
    rw [of_decide_eq_true h]
  · rfl
  · show Value.int (x &&& 1) = _
    rw [of_decide_eq_true h]
theorem ev_retO_ok {ad : List Nat} {b : Nat} {C : String} {x y : Value} (h : ev_retOk (.object C) x = true) (hr : ev_r ad b x y) : y = .null ∨ ∃ a, y = .ref a := by
  cases x <;> first | (cases h; done) | skip
  · exact Or.inl hr
  · obtain ⟨a, -, rfl⟩ := hr
    exact Or.inr ⟨a, rfl⟩
/-- what the evaluator's end says -/
theorem ev_end_inl {TX : Nat → Nat → Nat → Option (String × Nat × String)} {r : ev_R} {v : Option Value} {z : List ev_E × Nat × Nat × Nat} (h : ev_end TX M d r = some (.inl v, z)) :
    ∃ pc st, r = (pc, st, z) ∧ ((M.1 pc = some (.return_, 1) ∧ st = [] ∧ v = none ∧ M.2.2.2.2.2.2.1 = none) ∨ (∃ x ty, M.1 pc = some (.ireturn, 1) ∧ st = [.int x] ∧ v = some (.int x) ∧ M.2.2.2.2.2.2.1 = some ty ∧ ev_retOk ty (.int x) = true) ∨ (∃ x, M.1 pc = some (.lreturn, 1) ∧ st = [.long x] ∧ v = some (.long x) ∧ M.2.2.2.2.2.2.1 = some .long) ∨ (∃ x C, M.1 pc = some (.areturn, 1) ∧ st = [x] ∧ v = some x ∧ M.2.2.2.2.2.2.1 = some (.object C) ∧ ev_retOk (.object C) x = true)) := by
  obtain ⟨pc, st, hh, n, nc, ns⟩ := r
  unfold ev_end at h
  dsimp only at h
  split at h
  · next hi =>
    split at h
    · split at h
      · next hr => cases h; exact ⟨pc, _, rfl, Or.inl ⟨hi, rfl, rfl, hr⟩⟩
      · cases h
    · cases h
  · next hi =>
    split at h
    · next x ty hr =>
      split at h
      · next hok => cases h; exact ⟨pc, _, rfl, Or.inr (Or.inl ⟨x, ty, hi, rfl, rfl, hr, hok⟩)⟩
      · cases h
    · cases h
  · next hi =>
    split at h
    · next x hr => cases h; exact ⟨pc, _, rfl, Or.inr (Or.inr (Or.inl ⟨x, hi, rfl, rfl, hr⟩))⟩
    · cases h
  · next hi =>
    split at h
    · next x C hr =>
      split at h
      · next hok => cases h; exact ⟨pc, _, rfl, Or.inr (Or.inr (Or.inr ⟨x, C, hi, rfl, rfl, hr, hok⟩))⟩
      · cases h
    · cases h
  · split at h
    · split at h
      · cases h
      · cases h
    · cases h
  · cases h
theorem ev_ldc_ok {o : Option (Instr × Nat)} {is z : Nat} (h : ev_ldc o = some (is, z)) : (o = some (.ldc is, 2) ∧ z = 2) ∨ (o = some (.ldc_w is, 3) ∧ z = 3) := by
  unfold ev_ldc at h
  split at h
  · cases h; exact Or.inl ⟨rfl, rfl⟩
  · cases h; exact Or.inr ⟨rfl, rfl⟩
  · cases h
theorem ev_thr_ok {TX : Nat → Nat → Nat → Option (String × Nat × String)} {pc x : Nat} {st : List Value} {E : String} (h : ev_thr M TX pc x st = some E) : ∃ is ic tx z, TX M.2.2.1 x is = some (E, ic, tx) ∧ st = [] ∧ M.2.2.2.2.2.2.2 = [] ∧ M.1 (pc + 3) = some (.dup, 1) ∧ ((M.1 (pc + 4) = some (.ldc is, 2) ∧ z = 2) ∨ (M.1 (pc + 4) = some (.ldc_w is, 3) ∧ z = 3)) ∧ M.1 (pc + 4 + z) = some (.invokespecial ic, 3) ∧ M.1 (pc + 7 + z) = some (.athrow, 1) := by
  unfold ev_thr at h
  split at h
  · next is z hl =>
    split at h
    · next E' ic tx hT =>
      split at h
      · next hh =>
        split at h
        · next hc =>
          cases h
          rw [Bool.and_eq_true, Bool.and_eq_true] at hc
          obtain ⟨c1, c3, c4⟩ := hc
          exact ⟨is, ic, tx, z, hT, rfl, hh, of_decide_eq_true c1, ev_ldc_ok hl, of_decide_eq_true c3, of_decide_eq_true c4⟩
        · cases h
      · cases h
    · cases h
  · cases h
theorem ev_end_inr {TX : Nat → Nat → Nat → Option (String × Nat × String)} {r : ev_R} {E : String} {z : List ev_E × Nat × Nat × Nat} (h : ev_end TX M d r = some (.inr E, z)) :
    ∃ pc st hh n nc ns x, r = (pc, st, hh, n, nc, ns) ∧ z = (hh, n, nc + 1, ns + 6) ∧ M.1 pc = some (.new x, 3) ∧ ev_thr M TX pc x st = some E ∧ 6 ≤ d := by
  obtain ⟨pc, st, hh, n, nc, ns⟩ := r
  unfold ev_end at h
  dsimp only at h
  split at h
  · split at h
    · split at h
      · cases h
      · cases h
    · cases h
  · split at h
    · split at h
      · cases h
      · cases h
    · cases h
  · split at h
    · cases h
    · cases h
  · split at h
    · split at h
      · cases h
      · cases h
    · cases h
  · next x hi =>
    split at h
    · next E' hE =>
      split at h
      · next h6 =>
        cases h
        exact ⟨pc, st, _, _, _, _, x, rfl, rfl, hi, hE, Nat.le_of_ble_eq_true h6⟩
      · cases h
    · cases h
  · cases h
end EVE
