section EVK
variable {p : Program} {l : Launch} {e : Env} {R : Room} {s : State} {m : MethodId} {args : Array Value} {below : List Frame} {meth : Method} {c : Code} {H : Heap} {locs : List Loc} {cells slots : Nat} {Q : State → Prop}
variable {cc : ByteArray} {D : va_G} {cl : List vw_C} {A : Nat → Prop}
variable {TS nw : List Jvm.Cond} {nc : List (String × String)} {sr : List (String × Nat × String)} {ov : List FieldType} {CN : Nat → String} {PE : Nat → ev_T} {Y : Nat → MethodName} {B : Nat → ByteArray} {P : Nat → Option ev_M} {L : Nat → Nat → Option ev_L} {M : ev_M} {d : Nat} {call : Nat → List Value → List ev_E → Nat → Option ev_Z}
/-- the machine's state behind a step: cells, locals, stack -/
def ev_Nx (D : va_G) (cl : List vw_C) (A : Nat → Prop) (s : State) (nL b : Nat) (ad : List Nat) (lv' : List (Nat × Value)) (st' : List Value) (h' : List ev_E) (n' : Nat) (G : Heap → List Loc → Array Slot → List Value → Prop) : Prop :=
  ∀ (H1 : Heap) (locs1 : List Loc) (ls1 : Array Slot) (lvc1 : List (Nat × Value)) (stc1 : List Value) (ad1 : List Nat), (∃ z, ad1 = ad ++ z) → ev_J D cl A s s.heap H1 locs1 ad1 b h' n' → ev_rs ad1 b st' stc1 → ev_ls ad1 b lv' lvc1 → lv_has ls1 nL lvc1 → G H1 locs1 ls1 stc1
/-- behind a callee that answers -/
theorem ev_ans {pc pc' n' dc ds b mc ms : Nat} {ad : List Nat} {lv lv' lvc : List (Nat × Value)} {rest restc st' st0 : List Value} {h' h9 : List ev_E} {n9 : Nat} {v : Option Value} {ls : Array Slot} {ws : va_W} {a : Array Value}
    (hX : ev_back M pc lv rest (some (.inl v, h9, n9, mc, ms)) = some (pc', lv', st', h', n', dc, ds)) (hr : va_Run p l e R s m args below meth c H locs cells slots mc ms (F0 m pc ls st0) restc (ev_Qc D cl v ad b h9 n9 (va_A ws H.size) a) (va_A ws H.size)) (hD : va_D A ws) (hS : va_S A s.heap H locs) (hA : ∀ q, s.heap.size ≤ q → A q) (hre : ev_rs ad b rest restc) (hlv : ev_ls ad b lv lvc) (hh : lv_has ls M.2.1 lvc)
    (k : ev_Nx D cl A s M.2.1 b ad lv' st' h' n' (fun H1 locs1 ls1 stc1 => W p l e R s m args below meth c H1 locs1 (cells + dc) (slots + ds) Q (F0 m pc' ls1 stc1))) : W p l e R s m args below meth c H locs cells slots Q (F0 m pc ls st0) := by
  have hFr := ev_free hD hS hA
  refine ev_back_row hr hS hFr hFr (fun v' ad1 H1 locs1 hz hro hJ => ?_)
  obtain ⟨z, rfl⟩ := hz
  cases v with
  | none =>
    cases hX
    cases v' with
    | none => exact k H1 locs1 ls lvc _ _ ⟨z, rfl⟩ hJ (ev_rs_mono z hre) (ev_ls_mono z hlv) hh
    | some x => exact hro.elim
  | some x =>
    cases hX
    cases v' with
    | none => exact hro.elim
    | some y => exact k H1 locs1 ls lvc _ _ ⟨z, rfl⟩ hJ ⟨hro, ev_rs_mono z hre⟩ (ev_ls_mono z hlv) hh
/-- behind a callee that throws what is caught here -/
theorem ev_caught {pc pc' n' dc ds b mc ms : Nat} {ad : List Nat} {lv lv' lvc : List (Nat × Value)} {rest restc st' st0 : List Value} {h' h9 : List ev_E} {n9 : Nat} {E : String} {ls : Array Slot} {ws : va_W} {a : Array Value}
    (F : ev_Fix l TS nw nc sr cl ov CN PE Y B P L M p R s m args c cc D A d call) (hHd : ev_Hd TS nw nc CN M c)
    (hX : ev_back M pc lv rest (some (.inr E, h9, n9, mc, ms)) = some (pc', lv', st', h', n', dc, ds)) (hr : vx_Run p l e R s m args below meth c H locs cells slots mc ms (F0 m pc ls st0) restc (fun _ _ _ => False) (ev_XC D cl E ad b h9 n9 (va_A ws H.size)) (va_A ws H.size)) (hD : va_D A ws) (hS : va_S A s.heap H locs) (hlv : ev_ls ad b lv lvc) (hh : lv_has ls M.2.1 lvc)
    (k : ev_Nx D cl A s M.2.1 b ad lv' st' h' n' (fun H1 locs1 ls1 stc1 => W p l e R s m args below meth c H1 locs1 (cells + dc) (slots + ds) Q (F0 m pc' ls1 stc1))) : W p l e R s m args below meth c H locs cells slots Q (F0 m pc ls st0) := by
  obtain ⟨hx, hb, hml, hown, hts, hTS, hov, hnw, hK, hA, hF, hP, hL, hcall, hfr, hlo, hCN⟩ := F
  have hFr := ev_free hD hS hA
  unfold ev_back at hX
  dsimp only at hX
  split at hX
  · next t ht =>
    cases hX
    obtain ⟨pre, suf, q, e1, e2, e3, e4, e5, e6⟩ := ev_hd_ok ht
    have hq : q ∈ M.2.2.2.2.2.2.2 := by rw [e1]; exact List.mem_append_right _ List.mem_cons_self
    obtain ⟨f1, f2, f3, f4⟩ := hHd.2 q hq
    refine ev_thrown_row hr hS hFr hFr (fun ce q9 ad1 H1 locs1 hz hJ hce hcv hcl => ?_)
    obtain ⟨z, rfl⟩ := hz
    subst e2
    have htab : c.exceptionTable.toList = tableOf (pre.map fun z => z.1) ++ (⟨q.1.1, q.1.2.1, q.1.2.2.1, q.1.2.2.2⟩ : ExceptionTableEntry) :: tableOf (suf.map fun z => z.1) := by
      rw [hHd.1 (fun h => by rw [h] at hq; cases hq), e1]
      unfold tableOf
      simp
    refine vx_catch (own := CN M.2.2.1) (name := q.2) hown _ _ _ htab (fun zz hzz => ?_) ?_ f1 (hts _ f2) (va_Nw.use rfl (hF.2.1 _ f3)) hce hcv hcl ?_
    · unfold tableOf at hzz
      rw [List.map_map] at hzz
      obtain ⟨y, hy, rfl⟩ := List.mem_map.mp hzz
      by_cases hcov : y.1.1 ≤ pc ∧ pc < y.1.2.1
      · have hy2 : y ∈ M.2.2.2.2.2.2.2 := by rw [e1]; exact List.mem_append_left _ hy
        obtain ⟨g1, g2, g3, g4⟩ := hHd.2 y hy2
        refine Or.inr ⟨g1, y.2, hts _ g2, ?_⟩
        rcases f4 y hy2 with h9 | h9
        · exact absurd h9 (e6 y hy hcov)
        · exact hF.2.2.1 _ h9
      · refine Or.inl ?_
        show (decide (y.1.1 ≤ pc) && decide (pc < y.1.2.1)) = false
        rw [Bool.and_eq_false_iff]
        by_cases h8 : y.1.1 ≤ pc
        · exact Or.inr (decide_eq_false (fun h7 => hcov ⟨h8, h7⟩))
        · exact Or.inl (decide_eq_false h8)
    · show (decide (q.1.1 ≤ pc) && decide (pc < q.1.2.1)) = true
      rw [Bool.and_eq_true]
      exact ⟨decide_eq_true e3, decide_eq_true e4⟩
    · show W p l e R s m args below meth c H1 locs1 _ _ Q (F0 m q.1.2.2.1 ls [.ref q9])
      rw [e5]
      exact k H1 locs1 ls lvc _ _ ⟨z, rfl⟩ hJ ⟨⟨q9, rfl⟩, trivial⟩ (ev_ls_mono z hlv) hh
  · cases hX
end EVK
