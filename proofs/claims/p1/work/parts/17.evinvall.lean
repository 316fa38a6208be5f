section EVQ
variable {p : Program} {l : Launch} {e : Env} {R : Room} {s : State} {m : MethodId} {args : Array Value} {below : List Frame} {meth : Method} {c : Code} {H : Heap} {locs : List Loc} {cells slots : Nat} {Q : State → Prop}
variable {cc : ByteArray} {D : va_G} {cl : List vw_C} {A : Nat → Prop}
variable {TS nw : List Jvm.Cond} {nc : List (String × String)} {sr : List (String × Nat × String)} {ov : List FieldType} {CN : Nat → String} {PE : Nat → ev_T} {Y : Nat → MethodName} {B : Nat → ByteArray} {P : Nat → Option ev_M} {L : Nat → Nat → Option ev_L} {M : ev_M} {d : Nat} {call : Nat → List Value → List ev_E → Nat → Option ev_Z}
theorem ev_popS {ad : List Nat} {b na : Nat} {st stc as rest : List Value} (hr : ev_rs ad b st stc) (h : ev_pop na [] st = some (as, rest)) : ∃ as' restc, stc = as'.reverse ++ restc ∧ ev_rs ad b as as' ∧ ev_rs ad b rest restc ∧ as'.length = na := by
  obtain ⟨xs, h1, rfl, h3⟩ := ev_pop_ok h
  obtain ⟨ys, restc, rfl, h4, h5⟩ := ev_rs_split hr
  rw [List.append_nil] at h3
  subst h3
  exact ⟨ys.reverse, restc, by rw [List.reverse_reverse], ev_rs_rev h4, h5, by rw [List.length_reverse, ev_rs_len h4, h1]⟩
theorem ev_popO {ad : List Nat} {b na ci : Nat} {st stc as rest : List Value} {hh : List ev_E} (hr : ev_rs ad b st stc) (h : ev_pop (na + 1) [] st = some (as, rest)) (hv : ev_recv hh ci as = true) :
    ∃ k t fs a0 t' restc, as = .ref k :: t ∧ hh[k]? = some (.inr (ci, fs)) ∧ ad[k]? = some a0 ∧ stc = t'.reverse ++ .ref a0 :: restc ∧ ev_rs ad b as (.ref a0 :: t') ∧ ev_rs ad b rest restc ∧ t'.length = na := by
  obtain ⟨as', restc, h1, h2, h3, h4⟩ := ev_popS hr h
  obtain ⟨k, t, fs, rfl, h5⟩ := ev_recv_ok hv
  obtain ⟨a0, t', rfl, h6, h7⟩ := ev_rs_ref h2
  refine ⟨k, t, fs, a0, t', restc, rfl, h5, h6, ?_, h2, h3, by simpa using h4⟩
  rw [h1, List.reverse_cons, List.append_assoc]
  rfl
theorem ev_sub (own : String) {L1 TS : List Jvm.Cond} {w0 : Jvm.Cond} (h1 : ∀ w ∈ L1, w ∈ TS) (h0 : w0 ∈ TS) : ∀ w ∈ L1 ++ (w0 :: TS), w ∈ TS := by
  intro w hw
  rcases List.mem_append.mp hw with hw | hw
  · exact h1 w hw
  · rcases List.mem_cons.mp hw with rfl | hw
    · exact h0
    · exact hw
theorem ev_ansOf_ok {z z2 : Option ev_Z} {q : Bool} (h : ev_ansOf q z = z2) : (∃ v r, z = some (.inl v, r) ∧ z2 = some (.inl v, r)) ∨ (q = true ∧ ∃ E r, z = some (.inr E, r) ∧ z2 = some (.inr E, r)) ∨ z2 = none := by
  subst h
  cases q with
  | true =>
    cases z with
    | none => exact Or.inr (Or.inr rfl)
    | some z =>
      obtain ⟨z1, r⟩ := z
      cases z1 with
      | inl v => exact Or.inl ⟨v, r, rfl, rfl⟩
      | inr E => exact Or.inr (Or.inl ⟨rfl, E, r, rfl, rfl⟩)
  | false =>
    cases z with
    | none => exact Or.inr (Or.inr rfl)
    | some z =>
      obtain ⟨z1, r⟩ := z
      cases z1 with
      | inl v => exact Or.inl ⟨v, r, rfl, rfl⟩
      | inr E => exact Or.inr (Or.inr rfl)
set_option maxHeartbeats 4000000 in
/-- a call of an object's method, or of a constructor -/
theorem ev_invO {pc pc' n n' dc ds b x kind mi na op : Nat} {ad : List Nat} {lv lv' lvc : List (Nat × Value)} {st st' stc as rest : List Value} {hh h' : List ev_E} {ls : Array Slot} {M' : ev_M}
    (F : ev_Fix l TS nw nc sr cl ov CN PE Y B P L M p R s m args c cc D A d call) (hHd : ev_Hd TS nw nc CN M c)
    (hJ : ev_J D cl A s s.heap H locs ad b hh n) (hr : ev_rs ad b st stc) (hlv : ev_ls ad b lv lvc) (hh2 : lv_has ls M.2.1 lvc)
    (hq : L M.2.2.1 x = some (kind, mi, na)) (hM : P mi = some M') (hna : na = M'.2.2.2.2.2.1) (hop : op = kind % 3) (hop2 : op ≠ 2) (hk6 : kind ≠ 6) (hk7 : kind ≠ 7) (hk9 : kind ≠ 9) (hk10 : kind ≠ 10) (hpop : ev_pop (na + 1) [] st = some (as, rest)) (hsum : ev_sum rest ≤ 8) (hrec : ev_recv hh M'.2.2.1 as = true)
    (hX : ev_back M pc lv rest (ev_ansOf (Nat.beq kind 0) (call mi as hh n)) = some (pc', lv', st', h', n', dc, ds)) (hcells : cells + dc ≤ R.cells) (hslots : slots + ds ≤ R.slots)
    (hdg0 : op = 0 → decode cc pc = .ok (.invokevirtual x, 3)) (hdg1 : op = 1 → decode cc pc = .ok (.invokespecial x, 3))
    (k : ev_Nx D cl A s M.2.1 b ad lv' st' h' n' (fun H1 locs1 ls1 stc1 => W p l e R s m args below meth c H1 locs1 (cells + dc) (slots + ds) Q (F0 m pc' ls1 stc1))) : W p l e R s m args below meth c H locs cells slots Q (F0 m pc ls stc) := by
  have F' := F
  obtain ⟨hx, hb, hml, hown, hts, hTS, hov, hnw, hK, hA, hF, hP, hL, hcall, hfr, hlo, hCN⟩ := F
  obtain ⟨ws, hP0, hD, hS, hW, hn⟩ := hJ
  obtain ⟨k9, t, fs, a0, t', restc, rfl, g1, g2, rfl, g4, g5, g6⟩ := ev_popO hr hpop hrec
  obtain ⟨a1, e1, w1, w2, w3⟩ := ev_W_at hW g1
  obtain rfl : a1 = a0 := Option.some.inj (w2.symm.trans g2)
  obtain ⟨fs', rfl, w4⟩ := w3
  obtain ⟨q, hq9, -⟩ := hP0 k9 _ w1
  have hcn : q.1 = CN M'.2.2.1 := hCN _ _ hq9
  obtain ⟨m1, m2, m3, m4, m5, m6, ⟨m7, m8⟩, m9, m10, m11⟩ := hP _ _ hM
  have hlink := hL _ _ hq
  have hsum' : (restc.map fun v => v.category).sum ≤ 8 := by rw [ev_sum_ok g5]; exact hsum
  have hpre := ev_pre hov hnw hK hP0 hD hS hA hW hn hF (.ref a1 :: t')
  have hR : ∀ (C1 S1 : Nat), ({ frames := d, cells := C1, slots := S1, locals := 39 * d } : Room).frames + 1 ≤ R.frames ∧ 8 + (M'.2.1 + 11) + ({ frames := d, cells := C1, slots := S1, locals := 39 * d } : Room).locals ≤ R.locals := fun C1 S1 => ⟨hfr, by show 8 + (M'.2.1 + 11) + 39 * d ≤ R.locals; omega⟩
  rcases ev_ansOf_ok (z := call mi (.ref k9 :: t) hh n) rfl with ⟨v, ⟨h9, n9, mc, ms⟩, y1, y2⟩ | ⟨y0, E, ⟨h9, n9, mc, ms⟩, y1, y2⟩ | y2
  · rw [y2] at hX
    have hcon := hcall _ _ _ _ _ _ hM y1 D (.ref a1 :: t') H.size b ad ws g4
    have hmc : dc = mc ∧ ds = ms := by
      cases v <;> (cases hX; exact ⟨rfl, rfl⟩)
    obtain ⟨rfl, rfl⟩ := hmc
    have hkind : kind = 0 ∨ kind = 1 ∨ kind = 4 := by
      match kind, hop, hk6, hk7, hk9, hk10, hlink with
      | 0, _, _, _, _, _, _ => exact Or.inl rfl
      | 1, _, _, _, _, _, _ => exact Or.inr (Or.inl rfl)
      | 2, hop, _, _, _, _, _ => exact absurd hop hop2
      | 3, _, _, _, _, _, hl => exact hl.elim
      | 4, _, _, _, _, _, _ => exact Or.inr (Or.inr rfl)
      | 5, hop, _, _, _, _, _ => exact absurd hop hop2
      | 6, _, h, _, _, _, _ => exact absurd rfl h
      | 7, _, _, h, _, _, _ => exact absurd rfl h
      | 8, hop, _, _, _, _, _ => exact absurd hop hop2
      | 9, _, _, _, h, _, _ => exact absurd rfl h
      | 10, _, _, _, _, h, _ => exact absurd rfl h
      | _ + 11, _, _, _, _, _, hl => exact hl.elim
    rcases hkind with rfl | rfl | rfl
    · obtain ⟨l1, l2, l3, l4⟩ := hlink
      have hcw := ev_cw_nil (Y := Y) (B := B) (mi := mi) (l4 _ hM)
      exact ev_ans hX (va_runV (As := t') (rest := restc) ⟨hx, hb, hml, hown, hts⟩ hcon (cwV na hts (ev_goodIn hTS (ev_sub (CN 0) (by intro w hw; simp only [List.mem_cons, List.not_mem_nil, or_false] at hw; rcases hw with rfl | rfl | rfl | rfl <;> assumption) m7)) (by rw [hcw]) rfl rfl ⟨rfl, m6.1, m6.2.1, by rw [hna]; exact m6.2.2⟩ (hR _ _)) ⟨hpre.1, by rw [m3, ← hcn]; exact va_recv hK hP0 hq9 w1, hpre.2⟩ rfl g6 hh2.1 rfl (lv_room hsum') (hdg0 hop) ⟨hcells, hslots⟩) hD hS hA g5 hlv hh2 k
    · obtain ⟨l1, l2, l3, l4⟩ := hlink
      have hcw := ev_cw_nil (Y := Y) (B := B) (mi := mi) (l4 _ hM)
      rw [m10 l3] at hcw
      exact ev_ans hX (va_runI (As := t') (rest := restc) ⟨hx, hb, hml, hown, hts⟩ hcon (cwI na hts (ev_goodIn hTS (ev_sub (L1 := []) (CN 0) (fun w hw => by cases hw) m7)) (by rw [hcw]) rfl rfl (hts _ m9) (hts _ l1) (hts _ l2) l3 ⟨m6.1, m6.2.1, by rw [hna]; exact m6.2.2⟩ (hR _ _)) hpre rfl g6 hh2.1 rfl (lv_room hsum') (hdg1 hop) ⟨hcells, hslots⟩) hD hS hA g5 hlv hh2 k
    · obtain ⟨⟨host, l1⟩, l2, l3, l4⟩ := hlink
      have hcw := ev_cw_nil (Y := Y) (B := B) (mi := mi) (l4 _ hM)
      rw [m10 l3] at hcw
      exact ev_ans hX (va_runIN (As := t') (rest := restc) ⟨hx, hb, hml, hown, hts⟩ hcon ⟨va_cnB na hts (ev_goodIn hTS (ev_sub (L1 := []) (CN 0) (fun w hw => by cases hw) m7)) (by rw [hcw]) rfl rfl (hF.2.1 _ l1) (hts _ m9) ⟨m6.1, m6.2.1, by rw [hna]; exact m6.2.2⟩ (hR _ _), l3, hts _ l2⟩ hpre rfl g6 hh2.1 rfl (lv_room hsum') (hdg1 hop) ⟨hcells, hslots⟩) hD hS hA g5 hlv hh2 k
  · rw [y2] at hX
    have hcon := hcall _ _ _ _ _ _ hM y1 D (.ref a1 :: t') H.size b ad ws g4
    obtain rfl : kind = 0 := Nat.eq_of_beq_eq_true y0
    have hmc : dc = mc ∧ ds = ms := by
      unfold ev_back at hX
      dsimp only at hX
      split at hX
      · cases hX
        exact ⟨rfl, rfl⟩
      · cases hX
    obtain ⟨rfl, rfl⟩ := hmc
    obtain ⟨l1, l2, l3, l4⟩ := hlink
    have hcw := ev_cw_nil (Y := Y) (B := B) (mi := mi) (l4 _ hM)
    exact ev_caught (a := #[]) F' hHd hX (vx_runV (As := t') (rest := restc) ⟨hx, hb, hml, hown, hts⟩ hcon (cwV na hts (ev_goodIn hTS (ev_sub (CN 0) (by intro w hw; simp only [List.mem_cons, List.not_mem_nil, or_false] at hw; rcases hw with rfl | rfl | rfl | rfl <;> assumption) m7)) (by rw [hcw]) rfl rfl ⟨rfl, m6.1, m6.2.1, by rw [hna]; exact m6.2.2⟩ (hR _ _)) ⟨hpre.1, by rw [m3, ← hcn]; exact va_recv hK hP0 hq9 w1, hpre.2⟩ rfl g6 hh2.1 rfl (lv_room hsum') (hdg0 hop) ⟨hcells, hslots⟩) hD hS hlv hh2 k
  · rw [y2] at hX
    cases hX
end EVQ
