/-! the words at the entry -/
theorem ev_ovt : ∀ ty ∈ ev_ov, Jvm.Cond.arrayOver ty ∈ lw_tbl := List.forall_mem_cons.mpr ⟨ev_hb_tbl (i := 1063) (by decide +kernel), List.forall_mem_cons.mpr ⟨ev_hb_tbl (i := 1115) (by decide +kernel), List.forall_mem_cons.mpr ⟨ev_hb_tbl (i := 2148) (by decide +kernel), List.forall_mem_cons.mpr ⟨ev_hb_tbl (i := 2157) (by decide +kernel), List.forall_mem_cons.mpr ⟨ev_hb_tbl (i := 2159) (by decide +kernel), List.forall_mem_cons.mpr ⟨ev_hb_tbl (i := 3129) (by decide +kernel), fun _ h => absurd h List.not_mem_nil⟩⟩⟩⟩⟩⟩
def ev_wsB : List Jvm.Cond → List Nat → Bool
  | [], _ => true
  | _ :: _, [] => false
  | w :: l, i :: is => ev_hb i w && ev_wsB l is
theorem ev_wsB_ok : ∀ {l : List Jvm.Cond} {is : List Nat}, ev_wsB l is = true → ∀ w ∈ l, w ∈ lw_tbl
  | [], _, _, w, h => absurd h List.not_mem_nil
  | _ :: _, [], h, _, _ => by cases h
  | x :: l, i :: is, h, w, hw => by
    have h : (ev_hb i x && ev_wsB l is) = true := h
    rw [Bool.and_eq_true] at h
    rcases List.mem_cons.mp hw with rfl | hw
    · exact ev_hb_tbl h.1
    · exact ev_wsB_ok h.2 w hw
theorem ev_nwt : ∀ w ∈ ev_nw, w ∈ lw_tbl := ev_wsB_ok (is := [2160, 5032, 5035, 5042, 5059, 5060, 5056, 1204, 5162, 2219, 6021, 6022, 6023, 7208, 7211, 2004, 2033, 1066, 1117, 1149, 4189, 5080, 4209, 5073, 5074, 5075, 5085, 6170, 6179, 3136, 6166, 7042, 1035, 1199, 1238, 2214, 3019, 3131, 3233, 4061, 6039, 3234, 3235, 3236, 3237, 3238, 3239]) (by decide +kernel)
theorem ev_sw_ot {w : Jvm.Cond} (h : ev_sw w = true) : w.onTables = true := by
  cases w <;> first | (cases h; done) | rfl
def ev_srw : List Jvm.Cond := ev_sr.map (fun q => .stringRef q.1 q.2.1 q.2.2)
theorem ev_srws : ∀ w ∈ ev_srw, w ∈ lw_tbl := ev_wsB_ok (is := [4032, 4068, 4089, 5107, 6013, 6046, 6067, 6076, 6100, 7004, 7054, 7073, 7085, 7086, 7094, 7095, 7163, 7175, 7176, 7177, 7237, 8015, 8020, 8028, 8036, 8044, 8052, 8079, 8087, 8088, 8096, 8114, 8115, 8135]) (by decide +kernel)
theorem ev_srt (q : String × Nat × String) (hq : q ∈ ev_sr) : Jvm.Cond.stringRef q.1 q.2.1 q.2.2 ∈ lw_tbl := ev_srws _ (List.mem_map.mpr ⟨q, hq, rfl⟩)
theorem ev_zq0 : Jvm.Cond.initialized Bundle.tN ∈ lw_tbl := ev_hb_tbl (i := 1015) (by decide +kernel)
theorem ev_zq1 : Jvm.Cond.laysStatic Bundle.tN "UNASSIGNED_STACK" Bundle.steD ∈ lw_tbl := ev_hb_tbl (i := 4018) (by decide +kernel)
theorem ev_zq2 : Jvm.Cond.laysStatic Bundle.tN "SUPPRESSED_SENTINEL" Bundle.listD ∈ lw_tbl := ev_hb_tbl (i := 4020) (by decide +kernel)
theorem ev_ins : ∀ q ∈ vwCl, ∃ n, Jvm.Cond.instantiable q.1 n ∈ lw_tbl := List.forall_mem_cons.mpr ⟨⟨15, ev_hb_tbl (i := 2150) (by decide +kernel)⟩, List.forall_mem_cons.mpr ⟨⟨13, ev_hb_tbl (i := 1065) (by decide +kernel)⟩, List.forall_mem_cons.mpr ⟨⟨10, ev_hb_tbl (i := 1198) (by decide +kernel)⟩, List.forall_mem_cons.mpr ⟨⟨12, ev_hb_tbl (i := 2213) (by decide +kernel)⟩, List.forall_mem_cons.mpr ⟨⟨9, ev_hb_tbl (i := 1116) (by decide +kernel)⟩, List.forall_mem_cons.mpr ⟨⟨21, ev_hb_tbl (i := 1237) (by decide +kernel)⟩, List.forall_mem_cons.mpr ⟨⟨6, ev_hb_tbl (i := 2003) (by decide +kernel)⟩, List.forall_mem_cons.mpr ⟨⟨15, ev_hb_tbl (i := 1057) (by decide +kernel)⟩, List.forall_mem_cons.mpr ⟨⟨15, ev_hb_tbl (i := 3018) (by decide +kernel)⟩, List.forall_mem_cons.mpr ⟨⟨4, ev_hb_tbl (i := 3130) (by decide +kernel)⟩, List.forall_mem_cons.mpr ⟨⟨2, ev_hb_tbl (i := 1034) (by decide +kernel)⟩, List.forall_mem_cons.mpr ⟨⟨16, ev_hb_tbl (i := 3072) (by decide +kernel)⟩, List.forall_mem_cons.mpr ⟨⟨19, ev_hb_tbl (i := 1026) (by decide +kernel)⟩, List.forall_mem_cons.mpr ⟨⟨145, ev_hb_tbl (i := 8144) (by decide +kernel)⟩, fun _ h => absurd h List.not_mem_nil⟩⟩⟩⟩⟩⟩⟩⟩⟩⟩⟩⟩⟩⟩
