section EVO
variable {p : Program} {l : Launch} {e : Env} {R : Room} {s : State} {m : MethodId} {args : Array Value} {below : List Frame} {meth : Method} {c : Code} {H : Heap} {locs : List Loc} {cells slots : Nat} {Q : State → Prop}
variable {cc : ByteArray} {D : va_G} {cl : List vw_C} {A : Nat → Prop}
variable {TS nw : List Jvm.Cond} {nc : List (String × String)} {sr : List (String × Nat × String)} {ov : List FieldType} {CN : Nat → String} {PE : Nat → ev_T} {Y : Nat → MethodName} {B : Nat → ByteArray} {P : Nat → Option ev_M} {L : Nat → Nat → Option ev_L} {M : ev_M} {d : Nat} {call : Nat → List Value → List ev_E → Nat → Option ev_Z}
theorem ev_nb {a b : Nat} (h : Nat.beq a b = false) : a ≠ b := fun e => by
  rw [e, Nat.beq_refl] at h
  cases h
set_option maxHeartbeats 4000000 in
theorem ev_inv_ok {pc pc' n n' dc ds b x op : Nat} {ad : List Nat} {lv lv' lvc : List (Nat × Value)} {st st' stc : List Value} {hh h' : List ev_E} {ls : Array Slot}
    (F : ev_Fix l TS nw nc sr cl ov CN PE Y B P L M p R s m args c cc D A d call) (hHd : ev_Hd TS nw nc CN M c)
    (hJ : ev_J D cl A s s.heap H locs ad b hh n) (hr : ev_rs ad b st stc) (hlv : ev_ls ad b lv lvc) (hh2 : lv_has ls M.2.1 lvc)
    (hX : ev_inv P M call pc lv st hh n op (L M.2.2.1 x) = some (pc', lv', st', h', n', dc, ds)) (hcells : cells + dc ≤ R.cells) (hslots : slots + ds ≤ R.slots)
    (hdg0 : op = 0 → decode cc pc = .ok (.invokevirtual x, 3)) (hdg1 : op = 1 → decode cc pc = .ok (.invokespecial x, 3)) (hdg2 : op = 2 → decode cc pc = .ok (.invokestatic x, 3))
    (k : ev_Nx D cl A s M.2.1 b ad lv' st' h' n' (fun H1 locs1 ls1 stc1 => W p l e R s m args below meth c H1 locs1 (cells + dc) (slots + ds) Q (F0 m pc' ls1 stc1))) : W p l e R s m args below meth c H locs cells slots Q (F0 m pc ls stc) := by
  have F' := F
  obtain ⟨hx, hb, hml, hown, hts, hTS, hov, hnw, hK, hA, hF, hP, hL, hcall, hfr, hlo, hCN⟩ := F
  have z0 : ∃ z, ad = ad ++ z := ⟨[], (List.append_nil ad).symm⟩
  generalize hq : L M.2.2.1 x = q at hX
  unfold ev_inv at hX
  split at hX
  · next kind mi na =>
    split at hX
    · next h6 =>
      obtain rfl : kind = 6 := Nat.eq_of_beq_eq_true h6
      split at hX
      · next hop =>
        have hop := Nat.eq_of_beq_eq_true hop
        split at hX
        · next k9 r =>
          split at hX
          · next hs =>
            cases hX
            obtain ⟨l1, l2, l3⟩ := hL _ _ hq
            obtain ⟨a, t, rfl, ha, ht⟩ := ev_rs_ref hr
            have hsum' : (t.map fun v => v.category).sum ≤ 8 := by rw [ev_sum_ok ht]; exact Nat.le_of_ble_eq_true hs
            exact W.objInit hx hb hown (hts _ l1) (hts _ l2) (hts _ l3) rfl (by rw [hml]; exact hh2.1) rfl (hdg1 hop) (by omega) (by show 2 * 0 + _ + 12 ≤ _; omega) (k H locs ls lvc _ ad z0 hJ ht hlv hh2)
          · cases hX
        · cases hX
      · cases hX
    · next h6 =>
      split at hX
      · next h7 =>
        obtain rfl : kind = 7 := Nat.eq_of_beq_eq_true h7
        split at hX
        · next hop => exact ev_arrcopy F' hJ hr hlv hh2 hq hX (hdg2 (Nat.eq_of_beq_eq_true hop)) k
        · cases hX
      · next h7 =>
        split at hX
        · next h9 =>
          split at hX
          · next hop =>
            split at hX
            · next y x9 r =>
              split at hX
              · next hs =>
                cases hX
                obtain ⟨t1, rfl, r1⟩ := ev_rs_int hr
                obtain ⟨t2, rfl, r2⟩ := ev_rs_int r1
                have hsum' : (t2.map fun v => v.category).sum ≤ 8 := by rw [ev_sum_ok r2]; exact Nat.le_of_ble_eq_true hs
                rw [Bool.or_eq_true] at h9
                rcases h9 with h9 | h9
                · obtain rfl : kind = 9 := Nat.eq_of_beq_eq_true h9
                  obtain ⟨l1, l2, l3, l4⟩ := hL _ _ hq
                  exact va_mmin hx hb (by rw [hml]; exact hh2.1.symm) hown (hts _ l1) (hts _ l2) (hts _ l3) (hts _ l4) (by omega) (by omega) (by omega) (by omega) (hdg2 (Nat.eq_of_beq_eq_true hop)) (k H locs ls lvc _ ad z0 hJ ⟨rfl, r2⟩ hlv hh2)
                · obtain rfl : kind = 10 := Nat.eq_of_beq_eq_true h9
                  obtain ⟨l1, l2, l3, l4⟩ := hL _ _ hq
                  exact va_mmax hx hb (by rw [hml]; exact hh2.1.symm) hown (hts _ l1) (hts _ l2) (hts _ l3) (hts _ l4) (by omega) (by omega) (by omega) (by omega) (hdg2 (Nat.eq_of_beq_eq_true hop)) (k H locs ls lvc _ ad z0 hJ ⟨rfl, r2⟩ hlv hh2)
              · cases hX
            · cases hX
          · cases hX
        · next h9 =>
          rw [Bool.or_eq_false_iff] at h9
          split at hX
          · next M' hM =>
            split at hX
            · next hc =>
              rw [Bool.and_eq_true] at hc
              obtain ⟨c1, c2⟩ := hc
              have c1 := Nat.eq_of_beq_eq_true c1
              have c2 := Nat.eq_of_beq_eq_true c2
              split at hX
              · next hop =>
                have hop := Nat.eq_of_beq_eq_true hop
                split at hX
                · next as rest hpop =>
                  split at hX
                  · next hs => exact ev_invS F' hJ hr hlv hh2 hq hM c1 (by rw [← hop]; exact c2) hpop (Nat.le_of_ble_eq_true hs) hX hcells hslots (hdg2 hop) k
                  · cases hX
                · cases hX
              · next hop =>
                split at hX
                · next as rest hpop =>
                  split at hX
                  · next hs =>
                    rw [Bool.and_eq_true] at hs
                    exact ev_invO F' hHd hJ hr hlv hh2 hq hM c1 c2 (ev_nb hop) (ev_nb h6) (ev_nb h7) (ev_nb h9.1) (ev_nb h9.2) hpop (Nat.le_of_ble_eq_true hs.1) hs.2 hX hcells hslots hdg0 hdg1 k
                  · cases hX
                · cases hX
            · cases hX
          · cases hX
  · cases hX
/-- what is given of the script -/
def ev_XOk (X : ev_X) (s : State) (A : Nat → Prop) (b : Nat) : Prop := ∀ N xs, X = some (N, xs) → va_X b N xs s s.heap ∧ b < s.heap.size ∧ ¬ A b
theorem ev_scr_ok {X : ev_X} {i : Instr} {len pc n : Nat} {lv : List (Nat × Value)} {st : List Value} {hh : List ev_E} {o : ev_S} (h : ev_scr X i len pc lv st hh n = some o) : ∃ N xs, X = some (N, xs) ∧ len = 1 ∧ ((i = .arraylength ∧ ∃ r, st = .retAddr 0 :: r ∧ (pc + 1, lv, .int (Int32.ofNat N) :: r, hh, n, 0, 0) = o) ∨ (i = .iaload ∧ ∃ x r, st = .int x :: .retAddr 0 :: r ∧ vp_in x N ∧ (pc + 1, lv, .int (xs x.toNatClampNeg) :: r, hh, n, 0, 0) = o)) := by
  unfold ev_scr at h
  split at h
  · cases h
  · next N xs =>
    split at h
    · obtain ⟨h1, h2⟩ := ev_g_ok h
      split at h2
      · next r => exact ⟨N, xs, rfl, h1, Or.inl ⟨rfl, r, rfl, Option.some.inj h2⟩⟩
      · cases h2
    · obtain ⟨h1, h2⟩ := ev_g_ok h
      split at h2
      · next x r =>
        split at h2
        · next hin => exact ⟨N, xs, rfl, h1, Or.inr ⟨rfl, x, r, rfl, ev_in_ok hin, Option.some.inj h2⟩⟩
        · cases h2
      · cases h2
    · cases h
set_option maxHeartbeats 4000000 in
/-- a step of the evaluator is one of the machine's -/
theorem ev_one_ok {X : ev_X} {cn : Nat → String} {ft : Nat → Nat → FieldType} {nf : Nat → Nat} {pc pc' n n' dc ds b : Nat} {ad : List Nat} {lv lv' lvc : List (Nat × Value)} {st st' stc : List Value} {hh h' : List ev_E} {ls : Array Slot}
    (F : ev_Fix l TS nw nc sr cl ov CN PE Y B P L M p R s m args c cc D A d call) (hHd : ev_Hd TS nw nc CN M c) (hXo : ev_XOk X s A b)
    (hcl : ev_clOk TS cl cn ft nf) (hpool : ev_poolOk TS cl ov (CN M.2.2.1) (PE M.2.2.1)) (hac : ∀ ty ∈ [FieldType.int, .long, .byte, .boolean], Jvm.Cond.arrayClass ty ∈ TS) (hini : M.2.2.2.1 = true → meth.name = "<init>") (hdec : ∀ pc i len, M.1 pc = some (i, len) → decode cc pc = .ok (i, len))
    (hJ : ev_J D cl A s s.heap H locs ad b hh n) (hr : ev_rs ad b st stc) (hlv : ev_ls ad b lv lvc) (hh2 : lv_has ls M.2.1 lvc)
    (h : ev_one cn ft nf PE L P X M call pc lv st hh n = some (pc', lv', st', h', n', dc, ds)) (hcells : cells + dc ≤ R.cells) (hslots : slots + ds ≤ R.slots)
    (k : ev_Nx D cl A s M.2.1 b ad lv' st' h' n' (fun H1 locs1 ls1 stc1 => W p l e R s m args below meth c H1 locs1 (cells + dc) (slots + ds) Q (F0 m pc' ls1 stc1))) : W p l e R s m args below meth c H locs cells slots Q (F0 m pc ls stc) := by
  have F' := F
  obtain ⟨hx, hb, hml, hown, hts, hTS, hov, hnw, hK, hA, hF, hP, hL, hcall, hfr, hlo, hCN⟩ := F
  have z0 : ∃ z, ad = ad ++ z := ⟨[], (List.append_nil ad).symm⟩
  unfold ev_one at h
  split at h
  · cases h
  · next i len hi =>
    have hdg := hdec _ _ _ hi
    split at h
    · next q1 q2 q3 hp =>
      cases h
      exact ev_pure_ok hx hb hdg hp hr hlv hh2 (fun ls' lvc' stc' g1 g2 g3 => k H locs ls' lvc' stc' ad z0 hJ g1 g2 g3)
    · split at h
      · next q1 q2 q3 q4 q5 q6 hm =>
        cases h
        refine ev_mem_ok hx hb hts hown hcl hpool (fun ty hty => hF.1 ty hty) hac hini hK hA hJ hr hdg hm hcells hslots (fun H1 locs1 ad1 stc1 hz g1 g2 => ?_)
        obtain ⟨z, rfl⟩ := hz
        exact k H1 locs1 ls lvc stc1 _ ⟨z, rfl⟩ g1 g2 (ev_ls_mono z hlv) hh2
      · split at h
        · next z hz =>
          have h := Option.some.inj h
          subst h
          cases i with
          | invokevirtual x =>
            obtain ⟨rfl, h9⟩ := ev_g_ok (show ev_g len 3 (ev_inv P M call pc lv st hh n 0 (L M.2.2.1 x)) = some _ from hz)
            exact ev_inv_ok F' hHd hJ hr hlv hh2 h9 hcells hslots (fun _ => hdg) (fun q => by cases q) (fun q => by cases q) k
          | invokespecial x =>
            obtain ⟨rfl, h9⟩ := ev_g_ok (show ev_g len 3 (ev_inv P M call pc lv st hh n 1 (L M.2.2.1 x)) = some _ from hz)
            exact ev_inv_ok F' hHd hJ hr hlv hh2 h9 hcells hslots (fun q => by cases q) (fun _ => hdg) (fun q => by cases q) k
          | invokestatic x =>
            obtain ⟨rfl, h9⟩ := ev_g_ok (show ev_g len 3 (ev_inv P M call pc lv st hh n 2 (L M.2.2.1 x)) = some _ from hz)
            exact ev_inv_ok F' hHd hJ hr hlv hh2 h9 hcells hslots (fun q => by cases q) (fun q => by cases q) (fun _ => hdg) k
          | _ => exact absurd (show (none : Option ev_S) = some _ from hz) (fun q => by cases q)
        · obtain ⟨N, xs, hXX, rfl, hcase⟩ := ev_scr_ok h
          obtain ⟨x1, x2, x3⟩ := hXo _ _ hXX
          obtain ⟨ws, hP0, hD, hS, hW, hn⟩ := id hJ
          rcases hcase with ⟨rfl, r, rfl, e9⟩ | ⟨rfl, x, r, rfl, hin, e9⟩
          · cases e9
            obtain ⟨y, t, rfl, h2, h3⟩ := ev_rs_cons hr
            cases h2
            exact va_slen hx hb x1 x2 x3 hS hdg (k H locs ls lvc _ ad z0 hJ ⟨rfl, h3⟩ hlv hh2)
          · cases e9
            obtain ⟨t0, rfl, ht0⟩ := ev_rs_int hr
            obtain ⟨y, t, rfl, h2, h3⟩ := ev_rs_cons ht0
            cases h2
            exact va_sld hx hb x1 x2 x3 hS hin hdg (k H locs ls lvc _ ad z0 hJ ⟨rfl, h3⟩ hlv hh2)
end EVO
