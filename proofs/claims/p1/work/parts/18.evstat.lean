section EVT
variable {p : Program} {l : Launch} {e : Env} {R : Room} {s : State} {m : MethodId} {args : Array Value} {below : List Frame} {meth : Method} {c : Code} {H : Heap} {locs : List Loc} {cells slots : Nat} {Q : State → Prop}
variable {cc : ByteArray} {D : va_G} {cl : List vw_C} {A : Nat → Prop}
variable {TS nw : List Jvm.Cond} {nc : List (String × String)} {sr : List (String × Nat × String)} {ov : List FieldType} {CN : Nat → String} {PE : Nat → ev_T} {Y : Nat → MethodName} {B : Nat → ByteArray} {P : Nat → Option ev_M} {L : Nat → Nat → Option ev_L} {M : ev_M} {d : Nat} {call : Nat → List Value → List ev_E → Nat → Option ev_Z}
set_option maxHeartbeats 4000000 in
/-- a call of a static method -/
theorem ev_invS {pc pc' n n' dc ds b x kind mi na : Nat} {ad : List Nat} {lv lv' lvc : List (Nat × Value)} {st st' stc as rest : List Value} {hh h' : List ev_E} {ls : Array Slot} {M' : ev_M}
    (F : ev_Fix l TS nw nc sr cl ov CN PE Y B P L M p R s m args c cc D A d call)
    (hJ : ev_J D cl A s s.heap H locs ad b hh n) (hr : ev_rs ad b st stc) (hlv : ev_ls ad b lv lvc) (hh2 : lv_has ls M.2.1 lvc)
    (hq : L M.2.2.1 x = some (kind, mi, na)) (hM : P mi = some M') (hna : na = M'.2.2.2.2.2.1) (hop : 2 = kind % 3) (hpop : ev_pop na [] st = some (as, rest)) (hsum : ev_sum rest ≤ 8)
    (hX : ev_back M pc lv rest (ev_ansOf (Nat.beq kind 0) (call mi as hh n)) = some (pc', lv', st', h', n', dc, ds)) (hcells : cells + dc ≤ R.cells) (hslots : slots + ds ≤ R.slots)
    (hdg : decode cc pc = .ok (.invokestatic x, 3))
    (k : ev_Nx D cl A s M.2.1 b ad lv' st' h' n' (fun H1 locs1 ls1 stc1 => W p l e R s m args below meth c H1 locs1 (cells + dc) (slots + ds) Q (F0 m pc' ls1 stc1))) : W p l e R s m args below meth c H locs cells slots Q (F0 m pc ls stc) := by
  obtain ⟨hx, hb, hml, hown, hts, hTS, hov, hnw, hK, hA, hF, hP, hL, hcall, hfr, hlo, hCN⟩ := F
  obtain ⟨ws, hP0, hD, hS, hW, hn⟩ := hJ
  obtain ⟨t', restc, rfl, g4, g5, g6⟩ := ev_popS hr hpop
  obtain ⟨m1, m2, m3, m4, m5, m6, ⟨m7, m8⟩, m9, m10, m11⟩ := hP _ _ hM
  have hlink := hL _ _ hq
  have hsum' : (restc.map fun v => v.category).sum ≤ 8 := by rw [ev_sum_ok g5]; exact hsum
  have hpre := ev_pre hov hnw hK hP0 hD hS hA hW hn hF t'
  have hR : ∀ (C1 S1 : Nat), ({ frames := d, cells := C1, slots := S1, locals := 39 * d } : Room).frames + 1 ≤ R.frames ∧ 8 + (M'.2.1 + 11) + ({ frames := d, cells := C1, slots := S1, locals := 39 * d } : Room).locals ≤ R.locals := fun C1 S1 => ⟨hfr, by show 8 + (M'.2.1 + 11) + 39 * d ≤ R.locals; omega⟩
  rcases ev_ansOf_ok (z := call mi as hh n) rfl with ⟨v, ⟨h9, n9, mc, ms⟩, y1, y2⟩ | ⟨y0, E, ⟨h9, n9, mc, ms⟩, y1, y2⟩ | y2
  · rw [y2] at hX
    have hcon := hcall _ _ _ _ _ _ hM y1 D t' H.size b ad ws g4
    have hmc : dc = mc ∧ ds = ms := by
      cases v <;> (cases hX; exact ⟨rfl, rfl⟩)
    obtain ⟨rfl, rfl⟩ := hmc
    have hkind : kind = 2 ∨ kind = 5 ∨ kind = 8 := by
      match kind, hop, hlink with
      | 0, hop, _ => cases hop
      | 1, hop, _ => cases hop
      | 2, _, _ => exact Or.inl rfl
      | 3, _, hl => exact hl.elim
      | 4, hop, _ => cases hop
      | 5, _, _ => exact Or.inr (Or.inl rfl)
      | 6, hop, _ => cases hop
      | 7, hop, _ => cases hop
      | 8, _, _ => exact Or.inr (Or.inr rfl)
      | 9, hop, _ => cases hop
      | 10, hop, _ => cases hop
      | _ + 11, _, hl => exact hl.elim
    rcases hkind with rfl | rfl | rfl
    · obtain ⟨l1, l3, l4⟩ := hlink
      have hcw := ev_cw_nil (Y := Y) (B := B) (mi := mi) (l4 _ hM)
      exact ev_ans hX (va_runS (As := t') (rest := restc) ⟨hx, hb, hml, hown, hts⟩ hcon (va_cwS na hts (ev_goodIn hTS (ev_sub (CN 0) (by intro w hw; simp only [List.mem_cons, List.not_mem_nil, or_false] at hw; rcases hw with rfl | rfl | rfl <;> assumption) m7)) (by rw [hcw]) rfl rfl ⟨m6.1, m6.2.1, by rw [hna]; exact m6.2.2⟩ (hR _ _)) hpre rfl g6 hh2.1 rfl (lv_room hsum') hdg ⟨hcells, hslots⟩) hD hS hA g5 hlv hh2 k
    · obtain ⟨⟨host, l1⟩, l3, l4⟩ := hlink
      have hcw := ev_cw_nil (Y := Y) (B := B) (mi := mi) (l4 _ hM)
      exact ev_ans hX (va_runSN (As := t') (rest := restc) ⟨hx, hb, hml, hown, hts⟩ hcon ⟨va_cnB na hts (ev_goodIn hTS (ev_sub (L1 := []) (CN 0) (fun w hw => by cases hw) m7)) (by rw [hcw]) rfl rfl (hF.2.1 _ l1) (hts _ m9) ⟨m6.1, m6.2.1, by rw [hna]; exact m6.2.2⟩ (hR _ _), hts _ l3, trivial⟩ hpre rfl g6 hh2.1 rfl (lv_room hsum') hdg ⟨hcells, hslots⟩) hD hS hA g5 hlv hh2 k
    · obtain ⟨l1, l3, l4⟩ := hlink
      have hcw := ev_cw_cons (Y := Y) (B := B) (mi := mi) (l4 _ hM)
      exact ev_ans hX (vx_runSW (As := t') (rest := restc) ⟨hx, hb, hml, hown, hts⟩ hcon (vx_cwSW na hts (ev_goodIn hTS (ev_sub (CN 0) (by intro w hw; simp only [List.mem_cons, List.not_mem_nil, or_false] at hw; rcases hw with rfl | rfl | rfl <;> assumption) m7)) (by rw [hcw]) rfl rfl ⟨m6.1, m6.2.1, by rw [hna]; exact m6.2.2⟩ (hR _ _)) hpre rfl g6 hh2.1 rfl (lv_room hsum') hdg ⟨hcells, hslots⟩) hD hS hA g5 hlv hh2 k
  · obtain rfl : kind = 0 := Nat.eq_of_beq_eq_true y0
    cases hop
  · rw [y2] at hX
    cases hX
theorem ev_arr_ok {ty : FieldType} {dv : Value} {k0 k1 sp dp z : Nat} {hh h' : List ev_E} {x0 x1 : Option ev_E} (e : ev_arr ty dv k0 k1 sp dp z hh x0 x1 = some h') : ∃ n0 l0 n1 l1, x0 = some (.inl (ty, n0, l0)) ∧ x1 = some (.inl (ty, n1, l1)) ∧ sp + z ≤ n0 ∧ dp + z ≤ n1 ∧ h' = hh.set k1 (.inl (ty, n1, ev_cpy dv l0 l1 sp dp z)) := by
  unfold ev_arr at e
  split at e
  · next t0 n0 l0 t1 n1 l1 =>
    split at e
    · next hc =>
      rw [Bool.and_eq_true, Bool.and_eq_true, Bool.and_eq_true] at hc
      obtain ⟨⟨h1, h2⟩, h3, h4⟩ := hc
      have h1 := of_decide_eq_true h1
      have h2 := of_decide_eq_true h2
      subst h1
      subst h2
      exact ⟨n0, l0, n1, l1, rfl, rfl, Nat.le_of_ble_eq_true h3, Nat.le_of_ble_eq_true h4, (Option.some.inj e).symm⟩
    · cases e
  · cases e
theorem ev_cpyI (l0 l1 : List (Nat × Value)) (sp dp z : Nat) : va_cpy (fun j => ev_int (ev_rd (.int 0) l0 j)) (fun j => ev_int (ev_rd (.int 0) l1 j)) sp dp z = fun j => ev_int (ev_rd (.int 0) (ev_cpy (.int 0) l0 l1 sp dp z) j) := by
  funext j
  rw [ev_cpy_rd]
  unfold va_cpy
  split <;> rfl
theorem ev_cpyL (l0 l1 : List (Nat × Value)) (sp dp z : Nat) : va_cpy (fun j => ev_long (ev_rd (.long 0) l0 j)) (fun j => ev_long (ev_rd (.long 0) l1 j)) sp dp z = fun j => ev_long (ev_rd (.long 0) (ev_cpy (.long 0) l0 l1 sp dp z) j) := by
  funext j
  rw [ev_cpy_rd]
  unfold va_cpy
  split <;> rfl
theorem ev_copy_ok {pc n : Nat} {lv : List (Nat × Value)} {hh : List ev_E} {st : List Value} {o : ev_S} (e : ev_copy pc lv hh n st = some o) : ∃ z dp sp k0 k1 r h', st = .int z :: .int dp :: .ref k1 :: .int sp :: .ref k0 :: r ∧ ¬ sp < 0 ∧ ¬ dp < 0 ∧ ¬ z < 0 ∧ ev_sum r ≤ 8 ∧ (ev_arr .int (.int 0) k0 k1 sp.toNatClampNeg dp.toNatClampNeg z.toNatClampNeg hh hh[k0]? hh[k1]? = some h' ∨ ev_arr .long (.long 0) k0 k1 sp.toNatClampNeg dp.toNatClampNeg z.toNatClampNeg hh hh[k0]? hh[k1]? = some h') ∧ (pc + 3, lv, r, h', n, 0, 0) = o := by
  unfold ev_copy at e
  split at e
  · next z dp k1 sp k0 r =>
    split at e
    · next hc =>
      rw [Bool.and_eq_true, Bool.and_eq_true, Bool.and_eq_true] at hc
      obtain ⟨⟨h1, h2⟩, h3, h4⟩ := hc
      have h1 : ¬ sp < 0 := of_decide_eq_false ((Bool.not_eq_true' _).mp h1)
      have h2 : ¬ dp < 0 := of_decide_eq_false ((Bool.not_eq_true' _).mp h2)
      have h3 : ¬ z < 0 := of_decide_eq_false ((Bool.not_eq_true' _).mp h3)
      split at e
      · next h' hq =>
        refine ⟨z, dp, sp, k0, k1, r, h', rfl, h1, h2, h3, Nat.le_of_ble_eq_true h4, ?_, Option.some.inj e⟩
        split at hq
        · exact Or.inl hq
        · exact Or.inr hq
      · cases e
    · cases e
  · cases e
set_option maxHeartbeats 4000000 in
theorem ev_arrcopy {pc n b x : Nat} {ad : List Nat} {lv lv' lvc : List (Nat × Value)} {st st' stc : List Value} {hh h' : List ev_E} {ls : Array Slot} {pc' n' dc ds mi na : Nat}
    (F : ev_Fix l TS nw nc sr cl ov CN PE Y B P L M p R s m args c cc D A d call)
    (hJ : ev_J D cl A s s.heap H locs ad b hh n) (hr : ev_rs ad b st stc) (hlv : ev_ls ad b lv lvc) (hh2 : lv_has ls M.2.1 lvc)
    (hq : L M.2.2.1 x = some (7, mi, na)) (hX : ev_copy pc lv hh n st = some (pc', lv', st', h', n', dc, ds))
    (hdg : decode cc pc = .ok (.invokestatic x, 3))
    (k : ev_Nx D cl A s M.2.1 b ad lv' st' h' n' (fun H1 locs1 ls1 stc1 => W p l e R s m args below meth c H1 locs1 (cells + dc) (slots + ds) Q (F0 m pc' ls1 stc1))) : W p l e R s m args below meth c H locs cells slots Q (F0 m pc ls stc) := by
  obtain ⟨hx, hb, hml, hown, hts, hTS, hov, hnw, hK, hA, hF, hP, hL, hcall, hfr, hlo, hCN⟩ := F
  obtain ⟨ws, hP0, hD, hS, hW, hn⟩ := hJ
  obtain ⟨l1, l2, l3, l4⟩ := hL _ _ hq
  obtain ⟨z, dp, sp, k0, k1, r, h9, rfl, q1, q2, q3, q4, q5, q6⟩ := ev_copy_ok hX
  cases q6
  obtain ⟨t1, rfl, r1⟩ := ev_rs_int hr
  obtain ⟨t2, rfl, r2⟩ := ev_rs_int r1
  obtain ⟨a1, t3, rfl, b1, r3⟩ := ev_rs_ref r2
  obtain ⟨t4, rfl, r4⟩ := ev_rs_int r3
  obtain ⟨a0, t5, rfl, b0, r5⟩ := ev_rs_ref r4
  have hsum' : (t5.map fun v => v.category).sum ≤ 8 := by rw [ev_sum_ok r5]; exact q4
  have hloc : (t5.map fun v => v.category).sum + (nativeFrameWords "java/lang/System" "arraycopy" 5 + 11) ≤ R.locals := by
    have : nativeFrameWords "java/lang/System" "arraycopy" 5 = 7 := by decide +kernel
    omega
  rcases q5 with q5 | q5
  · obtain ⟨n0, l0, n1, l1', x0, x1, c0, c1, rfl⟩ := ev_arr_ok q5
    obtain ⟨u0, e0, w0, w0', cA0, y0, y0'⟩ := ev_W_at hW x0
    obtain ⟨u1, e1, w1, w1', cA1, y1, y1'⟩ := ev_W_at hW x1
    obtain rfl : u0 = a0 := Option.some.inj (w0'.symm.trans b0)
    obtain rfl : u1 = a1 := Option.some.inj (w1'.symm.trans b1)
    obtain rfl : e0 = .inl (cA0, n0, .inl fun j => ev_int (ev_rd (.int 0) l0 j)) := y0'
    obtain rfl : e1 = .inl (cA1, n1, .inl fun j => ev_int (ev_rd (.int 0) l1' j)) := y1'
    have hK2 : va_K D cl ([(cA0, FieldType.int)] ++ [(cA1, FieldType.int)]) s := (ev_K1 hK y0).app (ev_K1 hK y1)
    exact va_copyi hx hb (by rw [hml]; exact hh2.1.symm) hown (hts _ l1) (hts _ l2) (hts _ l3) (hts _ l4) hK2 hP0 hD hS k0 k1 0 1 w0 w1 rfl rfl rfl q1 q2 q3 c0 c1 (fun i hi => rfl) (by omega) hloc hdg (fun H1 locs1 hP1 hD1 hS1 => k H1 locs1 ls lvc _ ad ⟨[], (List.append_nil ad).symm⟩ (ev_J_set hW hn w1 ⟨cA1, y1, by rw [ev_cpyI]; rfl⟩ hP1 hD1 hS1) r5 hlv hh2)
  · obtain ⟨n0, l0, n1, l1', x0, x1, c0, c1, rfl⟩ := ev_arr_ok q5
    obtain ⟨u0, e0, w0, w0', cA0, y0, y0'⟩ := ev_W_at hW x0
    obtain ⟨u1, e1, w1, w1', cA1, y1, y1'⟩ := ev_W_at hW x1
    obtain rfl : u0 = a0 := Option.some.inj (w0'.symm.trans b0)
    obtain rfl : u1 = a1 := Option.some.inj (w1'.symm.trans b1)
    obtain rfl : e0 = .inl (cA0, n0, .inr (.inl fun j => ev_long (ev_rd (.long 0) l0 j))) := y0'
    obtain rfl : e1 = .inl (cA1, n1, .inr (.inl fun j => ev_long (ev_rd (.long 0) l1' j))) := y1'
    have hK2 : va_K D cl ([(cA0, FieldType.long)] ++ [(cA1, FieldType.long)]) s := (ev_K1 hK y0).app (ev_K1 hK y1)
    exact va_copyl hx hb (by rw [hml]; exact hh2.1.symm) hown (hts _ l1) (hts _ l2) (hts _ l3) (hts _ l4) hK2 hP0 hD hS k0 k1 0 1 w0 w1 rfl rfl rfl q1 q2 q3 c0 c1 (fun i hi => rfl) (by omega) hloc hdg (fun H1 locs1 hP1 hD1 hS1 => k H1 locs1 ls lvc _ ad ⟨[], (List.append_nil ad).symm⟩ (ev_J_set hW hn w1 ⟨cA1, y1, by rw [ev_cpyL]; rfl⟩ hP1 hD1 hS1) r5 hlv hh2)
end EVT
