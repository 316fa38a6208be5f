/-! THE LAW out of one run of the evaluator -/
def ev_Mlaw : ev_M := (ev_tb ev_tL_law, 7, 14, false, true, 1, some .boolean, [])
def ev_narrow : List Jvm.Cond := flatC (Jvm.Cond.and given_1 narrow_1)
theorem ev_ncB : ev_nc.all (fun q => decide (Jvm.Cond.not (.castable q.1 q.2) ∈ ev_narrow)) = true := by decide +kernel
theorem ev_srB : ev_sr.all (fun q => decide (Jvm.Cond.exactly (.string q.1 q.2.1) "java/lang/String" ∈ ev_narrow)) = true := by decide +kernel
theorem ev_isr1 : Jvm.Cond.isRef (.static Bundle.tN "UNASSIGNED_STACK" Bundle.steD) ∈ ev_narrow := by decide +kernel
theorem ev_isr2 : Jvm.Cond.isRef (.static Bundle.tN "SUPPRESSED_SENTINEL" Bundle.listD) ∈ ev_narrow := by decide +kernel
/-- what is known at the law's entry -/
theorem ev_FF {p : Program} {s : State} {m : MethodId} {meth : Method} {c : Code} {b L : Nat} {xs : Nat → Int32} (C0 : lw_At p s m meth c b L xs) : ev_F ev_ov ev_nw ev_nc ev_sr (fun q => s.heap.size ≤ q) s s.heap := by
  obtain ⟨hx, hb, hr, hml, hown, hts, hX, hbl, hlocks, hgv⟩ := C0
  have hs : ∀ c ∈ ev_narrow, c.before #[Value.ref b] s = true := flat_of_before _ hgv
  have hA : ∀ a : Nat, a < s.heap.size → ¬ s.heap.size ≤ a := fun a h => Nat.not_le.mpr h
  refine ⟨fun ty hty => hts _ (ev_ovt ty hty), fun w hw => va_Nw.of (ev_sw_ot (ev_nws w hw)) (hts _ (ev_nwt w hw)), fun q hq => va_Nc.of (hs _ (of_decide_eq_true (List.all_eq_true.mp ev_ncB q hq))), vx_Zqof (hts _ ev_zq1) (hts _ ev_zq0) (hs _ ev_isr1) hA, vx_Zqof (hts _ ev_zq2) (hts _ ev_zq0) (hs _ ev_isr2) hA, fun q hq => ?_⟩
  obtain ⟨a, c1, cell, k1, h1, -⟩ := Cond.exactly_spec (hs _ (of_decide_eq_true (List.all_eq_true.mp ev_srB q hq)))
  exact ⟨a, vk_R.of (hts _ (ev_srt q hq)) h1⟩
theorem ev_KK {p : Program} {s : State} {m : MethodId} {meth : Method} {c : Code} {b L : Nat} {xs : Nat → Int32} (C0 : lw_At p s m meth c b L xs) : ∃ D : va_G, va_K D vwCl [] s := by
  obtain ⟨hx, hb, hr, hml, hown, hts, hX, hbl, hlocks, hgv⟩ := C0
  have h : ∀ k : Nat, ∃ z : ClassId × (Nat → Nat), ∀ q, vwCl[k]? = some q → u_Kn s q.1 q.2.1 q.2.2 z.1 z.2 := fun k => by
    cases hq : vwCl[k]? with
    | none => exact ⟨(0, fun _ => 0), fun q e => by cases e⟩
    | some q =>
      obtain ⟨n, hn⟩ := ev_ins q (List.mem_of_getElem? hq)
      obtain ⟨-, -, h3, -⟩ := ev_cls k q hq
      obtain ⟨cC, iS, hk⟩ := u_known (n := n) hts (fun w hw => (List.mem_filter.mp (h3 w hw)).1) (hts _ hn)
      exact ⟨(cC, iS), fun q2 e => by cases e; exact hk⟩
  exact ⟨(fun k => (Classical.choose (h k)).1, fun k => (Classical.choose (h k)).2), fun k q hq => Classical.choose_spec (h k) q hq, fun k q e => by simp at e⟩
set_option maxHeartbeats 4000000 in
/-- the law comes to its end with true where the evaluator does -/
theorem ev_start {p : Program} {e : Env} {s : State} {m : MethodId} {below : List Frame} {meth : Method} {c : Code} (l : Launch) (hflags : l.flags = flags0) {b L : Nat} {xs : Nat → Int32} (C0 : lw_At p s m meth c b L xs) {F1 F2 pcF nF mc ms : Nat} {hF : List ev_E}
    (hrun : ev_run (ev_one ev_CN ev_ft ev_nf ev_PEs ev_Lk ev_P (some (L, xs)) ev_Mlaw (ev_call ev_CN ev_ft ev_nf ev_PEs ev_Lk ev_TXs ev_P F2 12)) F1 0 [(0, .retAddr 0)] [] [] 0 0 0 = some (pcF, [.int 1], hF, nF, mc, ms)) (hpc : ev_tb ev_tL_law pcF = some (.ireturn, 1)) (hmc : mc ≤ 116300) (hms : ms ≤ 8753336) :
    W p l e room_1 s m #[Value.ref b] below meth c s.heap [] 0 0 (lw_Z below #[Value.ref b] s) (entryFrame m ([Value.ref b] : List Value).toArray 7) := by
  have hl : l.stackTraces = false := by
    unfold Launch.stackTraces
    rw [hflags]
    decide +kernel
  have hFF := ev_FF C0
  obtain ⟨D, hK⟩ := ev_KK C0
  obtain ⟨hx, hb, hr, hml, hown, hts, hX, hbl, hlocks, hgv⟩ := id C0
  have G := ev_all_ok l hl
  have G' := G
  obtain ⟨-, hTS, hov, hnw, hP, hL, hTX, hcl, hac⟩ := G
  have hA : ∀ q : Nat, s.heap.size ≤ q → (fun q : Nat => s.heap.size ≤ q) q := fun _ h => h
  have F : ev_Fix l ev_TS ev_nw ev_nc ev_sr vwCl ev_ov ev_CN ev_PEs ev_Y ev_Bc ev_P ev_Lk ev_Mlaw p room_1 s m #[Value.ref b] c code D (fun q : Nat => s.heap.size ≤ q) 12 (ev_call ev_CN ev_ft ev_nf ev_PEs ev_Lk ev_TXs ev_P F2 12) :=
    ⟨hx, hb, hml, hown, fun w hw => hts w (List.mem_filter.mp hw).1, hTS, hov, hnw, hK, hA, hFF, hP, ev_linksB_ok (ev_links 14), fun mi M' as h n z hM hc => ev_call_ok G' 12 mi M' as h n z hM hc, Nat.le_of_ble_eq_true rfl, Nat.le_of_ble_eq_true rfl, fun ci q hq => (hcl ci q hq).1⟩
  have hHd : ev_Hd ev_TS ev_nw ev_nc ev_CN ev_Mlaw c := ⟨fun h => (h rfl).elim, fun q h => absurd h List.not_mem_nil⟩
  have hXo : ev_XOk (some (L, xs)) s (fun q : Nat => s.heap.size ≤ q) b := fun N xs' h => by
    cases h
    exact ⟨hX, hbl, Nat.not_le.mpr hbl⟩
  have hlv := lv_entry ([.ref b]) (n := 7) (Nat.le_of_ble_eq_true rfl)
  rw [lg_entry_eq]
  refine ev_run_ok F hHd hXo hcl (ev_pools 14) hac (fun q => by cases q) (ev_dec_ok ev_dL_law) hmc hms F1 0 0 0 0 [(0, .retAddr 0)] (lv_args 0 [.ref b]) [] [] [] _ [] s.heap [] hrun ⟨[], fun k q h => by simp at h, ⟨fun i j p q h => by simp at h, fun k q h => by simp at h⟩, va_S.rf, ⟨rfl, rfl, fun k x y h => by simp at h⟩, rfl⟩ trivial ⟨⟨rfl, rfl⟩, trivial⟩ hlv (fun HF locsF lsF stcF adF hz hJ hrs hls => ?_)
  obtain ⟨y, rfl, h4⟩ := ev_rs_one hrs
  cases h4
  obtain ⟨ws, -, -, hS, -, -⟩ := hJ
  exact va_forget (fun q hq => hS.2.2 q hq) (W.widen hmc hms (lw_ret hx hb hr hlocks (ev_dec_ok ev_dL_law _ _ _ hpc)))
