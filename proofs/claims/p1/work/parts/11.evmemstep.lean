section EVM
variable {p : Program} {l : Launch} {e : Env} {R : Room} {s : State} {m : MethodId} {args : Array Value} {below : List Frame} {meth : Method} {c : Code} {H : Heap} {locs : List Loc} {cells slots : Nat} {Q : State → Prop}
variable {cc : ByteArray} {ls : Array Slot} {D : va_G} {cl : List vw_C} {A : Nat → Prop} {H0 : Heap}
theorem ev_J_set {ws : va_W} {H1 : Heap} {locs1 : List Loc} {ad : List Nat} {b n : Nat} {hh : List ev_E} {k a : Nat} {x : ev_E} {e0 e1 : va_E} (hW : ev_W s ad b hh ws) (hn : hh.length = n) (hk : ws[k]? = some (a, e0)) (hx : ev_c s ad b x e1) (hP : va_P D cl (ws.set k (a, e1)) H1) (hD : va_D A (ws.set k (a, e1))) (hS : va_S A H0 H1 locs1) : ev_J D cl A s H0 H1 locs1 ad b (hh.set k x) n :=
  ⟨_, hP, hD, hS, ev_W_set hW hk hx, by rw [List.length_set]; exact hn⟩
theorem ev_J_push {ws : va_W} {H1 : Heap} {locs1 : List Loc} {ad : List Nat} {b n : Nat} {hh : List ev_E} {q : Nat} {x : ev_E} {e1 : va_E} (hW : ev_W s ad b hh ws) (hn : hh.length = n) (hx : ev_c s (ad ++ [q]) b x e1) (hP : va_P D cl (ws ++ [(q, e1)]) H1) (hD : va_D A (ws ++ [(q, e1)])) (hS : va_S A H0 H1 locs1) : ev_J D cl A s H0 H1 locs1 (ad ++ [q]) b (hh ++ [x]) (n + 1) :=
  ⟨_, hP, hD, hS, ev_W_push hW hx, by rw [List.length_append, hn]; rfl⟩
theorem ev_rd_map (d : Value) (g : Nat → Value) (j : Nat) : ∀ L : List Nat, ev_rd d (L.map fun i => (i, g i)) j = if j ∈ L then g j else d
  | [] => rfl
  | i :: L => by
    rw [List.map_cons, ev_rd_cons, ev_rd_map d g j L]
    by_cases e : j = i
    · rw [if_pos e, if_pos (by rw [e]; exact List.mem_cons_self), e]
    · rw [if_neg e]
      by_cases m : j ∈ L
      · rw [if_pos m, if_pos (List.mem_cons_of_mem _ m)]
      · rw [if_neg m, if_neg (fun q => (List.mem_cons.mp q).elim e m)]
theorem ev_W_app {ad zs : List Nat} {b : Nat} {h xs : List ev_E} {ws ys : va_W} (hW : ev_W s ad b h ws) (h1 : ys.map (fun q => q.1) = zs) (h2 : xs.length = ys.length) (h3 : ∀ (k : Nat) (x : ev_E) (y : Nat × va_E), xs[k]? = some x → ys[k]? = some y → ev_c s (ad ++ zs) b x y.2) : ev_W s (ad ++ zs) b (h ++ xs) (ws ++ ys) := by
  obtain ⟨g1, g2, g3⟩ := hW
  refine ⟨by rw [List.map_append, g1, h1], by rw [List.length_append, List.length_append, g2, h2], fun j u v hu hv => ?_⟩
  by_cases hl : j < ws.length
  · rw [List.getElem?_append_left (by rw [g2]; exact hl)] at hu
    rw [List.getElem?_append_left hl] at hv
    exact ev_c_mono zs (g3 j u v hu hv)
  · rw [List.getElem?_append_right (by rw [g2]; omega), g2] at hu
    rw [List.getElem?_append_right (by omega)] at hv
    exact h3 _ u v hu hv
theorem ev_mcells_ad (cA cy : ClassId) (q N K : Nat) : (ev_mcells cA cy q N K).map (fun x => x.1) = q :: (List.range N).map (fun i => q + 1 + i) := by
  unfold ev_mcells
  rw [List.map_cons, List.map_map]
  rfl
theorem ev_W_multi {ad : List Nat} {b n : Nat} {h : List ev_E} {ws : va_W} (hW : ev_W s ad b h ws) (hn : h.length = n) {cA cy : ClassId} (hA : ev_Ar s cA (.array .int)) (hy : ev_Ar s cy .int) (q N K : Nat) : ev_W s (ad ++ q :: (List.range N).map (fun i => q + 1 + i)) b (h ++ ev_rows n N K) (ws ++ ev_mcells cA cy q N K) := by
  have hl : ad.length = n := by rw [← hn, hW.2.1, ← hW.1, List.length_map]
  refine ev_W_app hW (ev_mcells_ad cA cy q N K) (by simp [ev_rows, ev_mcells]) (fun k x y hx hy2 => ?_)
  rcases ev_mcells_at hy2 with ⟨rfl, rfl⟩ | ⟨i, hi, rfl, rfl⟩
  · have hx : some _ = some x := hx
    cases hx
    refine ⟨cA, hA, _, rfl, fun j => ?_⟩
    rw [ev_rd_map]
    by_cases hj : j < N
    · rw [if_pos (List.mem_range.mpr hj), if_pos hj]
      refine ⟨q + 1 + j, ?_, rfl⟩
      rw [List.getElem?_append_right (by omega), hl, show n + 1 + j - n = j + 1 by omega, List.getElem?_cons_succ, List.getElem?_map, List.getElem?_range hj]
      rfl
    · rw [if_neg (fun m => hj (List.mem_range.mp m)), if_neg hj]
      rfl
  · have hx : (List.replicate N (Sum.inl (FieldType.int, K, [])) : List ev_E)[i]? = some x := hx
    rw [List.getElem?_replicate, if_pos hi] at hx
    cases hx
    exact ⟨cy, hy, rfl⟩
set_option maxHeartbeats 4000000 in
theorem ev_mem_ok {Ts : List Cond} {cn : Nat → String} {ft : Nat → Nat → FieldType} {nf : Nat → Nat} {ov : List FieldType} {own : String} {E : ev_T} {ini : Bool} {i : Instr} {len pc n pc' n' dc ds b : Nat} {ad : List Nat} {st st' stc : List Value} {hh h' : List ev_E}
    (hexec : p.tables.exec = Jvm.exec) (hb : c.code = cc) (hts : ∀ w ∈ Ts, w.before args s = true) (hown : s.vm.findClass own = some m.cls) (hcl : ev_clOk Ts cl cn ft nf) (hE : ev_poolOk Ts cl ov own E) (hov : ∀ ty ∈ ov, (Jvm.Cond.arrayOver ty).before #[] s = true) (hac : ∀ ty ∈ [FieldType.int, .long, .byte, .boolean], Jvm.Cond.arrayClass ty ∈ Ts) (hini : ini = true → meth.name = "<init>")
    (hK : va_K D cl [] s) (hA : ∀ q, H0.size ≤ q → A q) (hJ : ev_J D cl A s H0 H locs ad b hh n) (hr : ev_rs ad b st stc)
    (hdg : decode cc pc = .ok (i, len)) (h : ev_mem cn ft nf E ini i len pc st hh n = some (pc', st', h', n', dc, ds)) (hcells : cells + dc ≤ R.cells) (hslots : slots + ds ≤ R.slots)
    (k : ∀ (H1 : Heap) (locs1 : List Loc) (ad1 : List Nat) (stc1 : List Value), (∃ z, ad1 = ad ++ z) → ev_J D cl A s H0 H1 locs1 ad1 b h' n' → ev_rs ad1 b st' stc1 → W p l e R s m args below meth c H1 locs1 (cells + dc) (slots + ds) Q (F0 m pc' ls stc1)) : W p l e R s m args below meth c H locs cells slots Q (F0 m pc ls stc) := by
  have z0 : ∃ z, ad = ad ++ z := ⟨[], (List.append_nil ad).symm⟩
  cases i with
  | ldc x =>
    obtain ⟨v, hv, rfl, e1⟩ := ev_cst_i (show ev_cst len 2 pc st hh n false (E.2.2.2 x) = some _ from h)
    cases e1
    exact lv_ldc hexec hb hown (hts _ (hE.2.2.2 _ _ hv)) hdg (k H locs ad _ z0 hJ ⟨rfl, hr⟩)
  | ldc_w x =>
    obtain ⟨v, hv, rfl, e1⟩ := ev_cst_i (show ev_cst len 3 pc st hh n false (E.2.2.2 x) = some _ from h)
    cases e1
    exact lv_ldcw hexec hb hown (hts _ (hE.2.2.2 _ _ hv)) hdg (k H locs ad _ z0 hJ ⟨rfl, hr⟩)
  | ldc2_w x =>
    obtain ⟨v, hv, rfl, e1⟩ := ev_cst_l (show ev_cst len 3 pc st hh n true (E.2.2.2 x) = some _ from h)
    cases e1
    exact lv_ldc2 hexec hb hown (hts _ (hE.2.2.2 _ _ hv)) hdg (k H locs ad _ z0 hJ ⟨rfl, hr⟩)
  | getfield x =>
    obtain ⟨rfl, h9⟩ := ev_g_ok h
    obtain ⟨ci, f, fin, k9, r, fs, v, h1, rfl, h3, h4, e1⟩ := ev_fld_get h9
    cases e1
    obtain ⟨a, t, rfl, ha, ht⟩ := ev_rs_ref hr
    obtain ⟨ws, hP, hD, hS, hW, hn⟩ := id hJ
    obtain ⟨a2, e2, w1, w2, w3⟩ := ev_W_at hW h3
    obtain rfl : a2 = a := Option.some.inj (w2.symm.trans ha)
    obtain ⟨fs', rfl, w4⟩ := w3
    obtain ⟨y, w5, w6⟩ := ev_rs_at w4 h4
    obtain ⟨q, q1, q2, q3, -⟩ := hE.1 _ _ _ _ h1
    obtain ⟨-, -, c3, -, -⟩ := hcl _ _ q1
    exact va_get (ci := ci) (v := y) (C := q.1) (T := q.2.1) (N := q.2.2) hexec hb hts c3 hown hK hP k9 w1 q1 f q2 (hts _ q3) (fun _ h9 => h9) w5 hdg (k H locs ad _ z0 hJ ⟨w6, ht⟩)
  | putfield x =>
    obtain ⟨rfl, h9⟩ := ev_g_ok h
    obtain ⟨ci, f, fin, k9, r, fs, v, h1, hf, rfl, h3, h4, h5, e1⟩ := ev_fld_put h9
    cases e1
    obtain ⟨y, t0, rfl, hy, ht0⟩ := ev_rs_cons hr
    obtain ⟨a, t, rfl, ha, ht⟩ := ev_rs_ref ht0
    obtain ⟨ws, hP, hD, hS, hW, hn⟩ := id hJ
    obtain ⟨a2, e2, w1, w2, w3⟩ := ev_W_at hW h3
    obtain rfl : a2 = a := Option.some.inj (w2.symm.trans ha)
    obtain ⟨fs', rfl, w4⟩ := w3
    obtain ⟨q, q1, q2, q3, q4⟩ := hE.1 _ _ _ _ h1
    obtain ⟨-, -, c3, c4, c5⟩ := hcl _ _ q1
    obtain ⟨g1, g2⟩ := ev_fit_ok h4 hy
    have hl : f < fs'.length := by rw [ev_rs_len w4]; exact h5
    rcases q4 with ⟨q4, q5⟩ | ⟨q4, q5, q6⟩ | q4
    · exact va_put (ci := ci) (v := y) (C := q.1) (T := q.2.1) (N := q.2.2) hexec hb hts c3 (ft ci) c4 c5 hown hK hP hD hS k9 w1 q1 f q2 (hts _ q3) (fun _ h9 => h9) q5 (c4 f q2) g1 g2 hl hdg (fun H1 locs1 hP1 hD1 hS1 => k H1 locs1 ad _ z0 (ev_J_set hW hn w1 ⟨_, rfl, ev_rs_set hy f w4⟩ hP1 hD1 hS1) ht)
    · have hi : ini = true := by
        rcases hf with hf | hf
        · omega
        · exact hf.2
      exact va_putF (ci := ci) (v := y) (C := q.1) (T := q.2.1) (N := q.2.2) hexec hb hts c3 (ft ci) c4 c5 hown hK hP hD hS k9 w1 q1 f q2 (hts _ q3) (fun _ h9 => h9) q5 (hini hi) q6 (c4 f q2) g1 g2 hl hdg (fun H1 locs1 hP1 hD1 hS1 => k H1 locs1 ad _ z0 (ev_J_set hW hn w1 ⟨_, rfl, ev_rs_set hy f w4⟩ hP1 hD1 hS1) ht)
    · omega
  | iaload =>
    obtain ⟨rfl, h9⟩ := ev_g_ok h
    split at h9
    · next x k9 r =>
      obtain ⟨ty, N, l9, g1, g2, g3, e1⟩ := ev_ald_ok h9
      cases e1
      obtain rfl := List.mem_singleton.mp g3
      obtain ⟨t0, rfl, ht0⟩ := ev_rs_int hr
      obtain ⟨a, t, rfl, ha, ht⟩ := ev_rs_ref ht0
      obtain ⟨ws, hP, hD, hS, hW, hn⟩ := id hJ
      obtain ⟨a2, e2, w1, w2, cA, w3, w4⟩ := ev_W_at hW g1
      obtain rfl : a2 = a := Option.some.inj (w2.symm.trans ha)
      obtain rfl : e2 = .inl (cA, N, .inl fun j => ev_int (ev_rd (.int 0) l9 j)) := w4
      exact va_iald hexec hb (ev_K1 hK w3) hP k9 0 w1 rfl g2 hdg (k H locs ad _ z0 hJ ⟨rfl, ht⟩)
    · cases h9
  | baload =>
    obtain ⟨rfl, h9⟩ := ev_g_ok h
    split at h9
    · next x k9 r =>
      obtain ⟨ty, N, l9, g1, g2, g3, e1⟩ := ev_ald_ok h9
      cases e1
      obtain ⟨t0, rfl, ht0⟩ := ev_rs_int hr
      obtain ⟨a, t, rfl, ha, ht⟩ := ev_rs_ref ht0
      obtain ⟨ws, hP, hD, hS, hW, hn⟩ := id hJ
      obtain ⟨a2, e2, w1, w2, cA, w3, w4⟩ := ev_W_at hW g1
      obtain rfl : a2 = a := Option.some.inj (w2.symm.trans ha)
      rcases List.mem_cons.mp g3 with rfl | g4
      · obtain rfl : e2 = .inl (cA, N, .inl fun j => ev_int (ev_rd (.int 0) l9 j)) := w4
        exact va_bald hexec hb (ev_K1 hK w3) hP k9 0 w1 rfl g2 hdg (k H locs ad _ z0 hJ ⟨rfl, ht⟩)
      · obtain rfl := List.mem_singleton.mp g4
        obtain rfl : e2 = .inl (cA, N, .inl fun j => ev_int (ev_rd (.int 0) l9 j)) := w4
        exact va_zald hexec hb (ev_K1 hK w3) hP k9 0 w1 rfl g2 hdg (k H locs ad _ z0 hJ ⟨rfl, ht⟩)
    · cases h9
  | laload =>
    obtain ⟨rfl, h9⟩ := ev_g_ok h
    split at h9
    · next x k9 r =>
      obtain ⟨ty, N, l9, g1, g2, g3, e1⟩ := ev_ald_ok h9
      cases e1
      obtain rfl := List.mem_singleton.mp g3
      obtain ⟨t0, rfl, ht0⟩ := ev_rs_int hr
      obtain ⟨a, t, rfl, ha, ht⟩ := ev_rs_ref ht0
      obtain ⟨ws, hP, hD, hS, hW, hn⟩ := id hJ
      obtain ⟨a2, e2, w1, w2, cA, w3, w4⟩ := ev_W_at hW g1
      obtain rfl : a2 = a := Option.some.inj (w2.symm.trans ha)
      obtain rfl : e2 = .inl (cA, N, .inr (.inl fun j => ev_long (ev_rd (.long 0) l9 j))) := w4
      exact va_lald hexec hb (ev_K1 hK w3) hP k9 0 w1 rfl g2 hdg (k H locs ad _ z0 hJ ⟨rfl, ht⟩)
    · cases h9
  | aaload =>
    obtain ⟨rfl, h9⟩ := ev_g_ok h
    split at h9
    · next x k9 r =>
      split at h9
      · next C N0 l0 hk9 =>
        obtain ⟨ty, N, l9, g1, g2, g3, e1⟩ := ev_ald_ok h9
        cases e1
        cases g1
        obtain ⟨t0, rfl, ht0⟩ := ev_rs_int hr
        obtain ⟨a, t, rfl, ha, ht⟩ := ev_rs_ref ht0
        obtain ⟨ws, hP, hD, hS, hW, hn⟩ := id hJ
        obtain ⟨a2, e2, w1, w2, cA, w3, w4⟩ := ev_W_at hW hk9
        obtain rfl : a2 = a := Option.some.inj (w2.symm.trans ha)
        obtain ⟨g, rfl, w5⟩ := (show ∃ g : Nat → Option Nat, e2 = .inl (cA, _, .inr (.inr (.inr (.inr g)))) ∧ ∀ j, ev_q ad (ev_rd .null _ j) (g j) from w4)
        exact ev_aald hexec hb hP k9 w1 w3 rfl g2 hdg (k H locs ad _ z0 hJ ⟨ev_q_r (w5 _), ht⟩)
      · next t9 N0 l0 hk9 =>
        obtain ⟨ty, N, l9, g1, g2, g3, e1⟩ := ev_ald_ok h9
        cases e1
        cases g1
        obtain ⟨t0, rfl, ht0⟩ := ev_rs_int hr
        obtain ⟨a, t, rfl, ha, ht⟩ := ev_rs_ref ht0
        obtain ⟨ws, hP, hD, hS, hW, hn⟩ := id hJ
        obtain ⟨a2, e2, w1, w2, cA, w3, w4⟩ := ev_W_at hW hk9
        obtain rfl : a2 = a := Option.some.inj (w2.symm.trans ha)
        obtain ⟨g, rfl, w5⟩ := (show ∃ g : Nat → Option Nat, e2 = .inl (cA, _, .inr (.inr (.inr (.inr g)))) ∧ ∀ j, ev_q ad (ev_rd .null _ j) (g j) from w4)
        exact ev_aald hexec hb hP k9 w1 w3 rfl g2 hdg (k H locs ad _ z0 hJ ⟨ev_q_r (w5 _), ht⟩)
      · cases h9
    · cases h9
  | iastore =>
    obtain ⟨rfl, h9⟩ := ev_g_ok h
    split at h9
    · next v x k9 r =>
      obtain ⟨ty, N, l9, g1, g2, g3, e1⟩ := ev_ast_ok h9
      cases e1
      obtain rfl := List.mem_singleton.mp g3
      obtain ⟨t1, rfl, ht1⟩ := ev_rs_int hr
      obtain ⟨t0, rfl, ht0⟩ := ev_rs_int ht1
      obtain ⟨a, t, rfl, ha, ht⟩ := ev_rs_ref ht0
      obtain ⟨ws, hP, hD, hS, hW, hn⟩ := id hJ
      obtain ⟨a2, e2, w1, w2, cA, w3, w4⟩ := ev_W_at hW g1
      obtain rfl : a2 = a := Option.some.inj (w2.symm.trans ha)
      obtain rfl : e2 = .inl (cA, N, .inl fun j => ev_int (ev_rd (.int 0) l9 j)) := w4
      exact va_iast hexec hb (ev_K1 hK w3) hP hD hS k9 0 w1 rfl g2 hdg (fun H1 locs1 hP1 hD1 hS1 => k H1 locs1 ad _ z0 (ev_J_set hW hn w1 ⟨cA, w3, by rw [ev_updI l9 _ v (narrow .int (.int v)) rfl]; rfl⟩ hP1 hD1 hS1) ht)
    · cases h9
  | bastore =>
    obtain ⟨rfl, h9⟩ := ev_g_ok h
    split at h9
    · next v x k9 r =>
      obtain ⟨ty, N, l9, g1, g2, g3, e1⟩ := ev_ast_ok h9
      cases e1
      obtain ⟨t1, rfl, ht1⟩ := ev_rs_int hr
      obtain ⟨t0, rfl, ht0⟩ := ev_rs_int ht1
      obtain ⟨a, t, rfl, ha, ht⟩ := ev_rs_ref ht0
      obtain ⟨ws, hP, hD, hS, hW, hn⟩ := id hJ
      obtain ⟨a2, e2, w1, w2, cA, w3, w4⟩ := ev_W_at hW g1
      obtain rfl : a2 = a := Option.some.inj (w2.symm.trans ha)
      rcases List.mem_cons.mp g3 with rfl | g4
      · obtain rfl : e2 = .inl (cA, N, .inl fun j => ev_int (ev_rd (.int 0) l9 j)) := w4
        exact va_bast hexec hb (ev_K1 hK w3) hP hD hS k9 0 w1 rfl g2 hdg (fun H1 locs1 hP1 hD1 hS1 => k H1 locs1 ad _ z0 (ev_J_set hW hn w1 ⟨cA, w3, by rw [ev_updI l9 _ (vp_nar .byte v) (narrow .byte (.int v)) rfl]; rfl⟩ hP1 hD1 hS1) ht)
      · obtain rfl := List.mem_singleton.mp g4
        obtain rfl : e2 = .inl (cA, N, .inl fun j => ev_int (ev_rd (.int 0) l9 j)) := w4
        exact va_zast hexec hb (ev_K1 hK w3) hP hD hS k9 0 w1 rfl g2 hdg (fun H1 locs1 hP1 hD1 hS1 => k H1 locs1 ad _ z0 (ev_J_set hW hn w1 ⟨cA, w3, by rw [ev_updI l9 _ (vp_nar .boolean v) (narrow .boolean (.int v)) rfl]; rfl⟩ hP1 hD1 hS1) ht)
    · cases h9
  | lastore =>
    obtain ⟨rfl, h9⟩ := ev_g_ok h
    split at h9
    · next v x k9 r =>
      obtain ⟨ty, N, l9, g1, g2, g3, e1⟩ := ev_ast_ok h9
      cases e1
      obtain rfl := List.mem_singleton.mp g3
      obtain ⟨t1, rfl, ht1⟩ := ev_rs_long hr
      obtain ⟨t0, rfl, ht0⟩ := ev_rs_int ht1
      obtain ⟨a, t, rfl, ha, ht⟩ := ev_rs_ref ht0
      obtain ⟨ws, hP, hD, hS, hW, hn⟩ := id hJ
      obtain ⟨a2, e2, w1, w2, cA, w3, w4⟩ := ev_W_at hW g1
      obtain rfl : a2 = a := Option.some.inj (w2.symm.trans ha)
      obtain rfl : e2 = .inl (cA, N, .inr (.inl fun j => ev_long (ev_rd (.long 0) l9 j))) := w4
      exact va_last hexec hb (ev_K1 hK w3) hP hD hS k9 0 w1 rfl g2 hdg (fun H1 locs1 hP1 hD1 hS1 => k H1 locs1 ad _ z0 (ev_J_set hW hn w1 ⟨cA, w3, by rw [ev_updL]; rfl⟩ hP1 hD1 hS1) ht)
    · cases h9
  | aastore =>
    obtain ⟨rfl, h9⟩ := ev_g_ok h
    split at h9
    · next j x k9 r =>
      split at h9
      · next ty0 N0 l0 hk9 =>
        split at h9
        · next hasg =>
          obtain ⟨ty, N, l9, g1, g2, g3, e1⟩ := ev_ast_ok h9
          cases e1
          cases g1
          obtain ⟨v, t1, rfl, hv, ht1⟩ := ev_rs_ref hr
          obtain ⟨t0, rfl, ht0⟩ := ev_rs_int ht1
          obtain ⟨a, t, rfl, ha, ht⟩ := ev_rs_ref ht0
          obtain ⟨ws, hP, hD, hS, hW, hn⟩ := id hJ
          obtain ⟨a2, e2, w1, w2, cA, w3, w4⟩ := ev_W_at hW hk9
          obtain rfl : a2 = a := Option.some.inj (w2.symm.trans ha)
          obtain ⟨xv, ev, y1, y2, y3⟩ := ev_W_ad hW hv
          rw [y1] at hasg
          cases xv with
          | inr o =>
            obtain ⟨ci, vs⟩ := o
            obtain rfl : ty0 = .object (cn ci) := of_decide_eq_true hasg
            obtain ⟨g, rfl, w5⟩ := (show ∃ g : Nat → Option Nat, e2 = .inl (cA, _, .inr (.inr (.inr (.inr g)))) ∧ ∀ j, ev_q ad (ev_rd .null _ j) (g j) from w4)
            obtain ⟨vs', rfl, y4⟩ := y3
            obtain ⟨q, hq, -⟩ := hP j _ y2
            obtain ⟨c1, -⟩ := hcl _ _ hq
            have hK1 := ev_K1 hK w3
            rw [← c1] at hK1
            exact va_astq hexec hb hK1 hP hD hS k9 0 j ci w1 rfl y2 hq g2 hdg (fun H1 locs1 hP1 hD1 hS1 => k H1 locs1 ad _ z0 (ev_J_set hW hn w1 ⟨cA, w3, _, rfl, ev_updQ w5 hv⟩ hP1 hD1 hS1) ht)
          | inl o =>
            obtain ⟨tv, Nv, lv⟩ := o
            obtain rfl : ty0 = .array tv := of_decide_eq_true hasg
            obtain ⟨g, rfl, w5⟩ := (show ∃ g : Nat → Option Nat, e2 = .inl (cA, _, .inr (.inr (.inr (.inr g)))) ∧ ∀ j, ev_q ad (ev_rd .null _ j) (g j) from w4)
            obtain ⟨cV, y4, y5⟩ := y3
            obtain ⟨xx, rfl⟩ : ∃ xx : vp_A, ev = .inl (cV, xx) := by
              unfold ev_a at y5
              split at y5
              · obtain ⟨g9, y6, -⟩ := y5
                exact ⟨_, y6⟩
              · split at y5
                · exact ⟨_, y5⟩
                · exact ⟨_, y5⟩
            exact ev_aastA hexec hb hP hD hS k9 j w1 w3 y2 y4 g2 hdg (fun H1 locs1 hP1 hD1 hS1 => k H1 locs1 ad _ z0 (ev_J_set hW hn w1 ⟨cA, w3, _, rfl, ev_updQ w5 hv⟩ hP1 hD1 hS1) ht)
        · cases h9
      · cases h9
    · cases h9
  | arraylength =>
    obtain ⟨rfl, h9⟩ := ev_g_ok h
    split at h9
    · next k9 r =>
      obtain ⟨ty, N, l9, g1, e1⟩ := ev_len_ok h9
      cases e1
      obtain ⟨a, t, rfl, ha, ht⟩ := ev_rs_ref hr
      obtain ⟨ws, hP, hD, hS, hW, hn⟩ := id hJ
      obtain ⟨a2, e2, w1, w2, cA, w3, w4⟩ := ev_W_at hW g1
      obtain rfl : a2 = a := Option.some.inj (w2.symm.trans ha)
      obtain ⟨xx, rfl, e9⟩ : ∃ xx : vp_A, e2 = .inl (cA, xx) ∧ xx.1 = N := by
        unfold ev_a at w4
        split at w4
        · obtain ⟨g9, y6, -⟩ := w4
          exact ⟨_, y6, rfl⟩
        · split at w4
          · exact ⟨_, w4, rfl⟩
          · exact ⟨_, w4, rfl⟩
      exact va_alen hexec hb (ev_K1 hK w3) hP k9 0 w1 rfl (by rw [e9]) hdg (k H locs ad _ z0 hJ ⟨rfl, ht⟩)
    · cases h9
  | newarray t9 =>
    obtain ⟨rfl, h9⟩ := ev_g_ok h
    split at h9
    · next x r =>
      split at h9
      · next hm =>
        have hm := of_decide_eq_true hm
        obtain ⟨g1, g2, e1⟩ := ev_newa_ok h9
        cases e1
        obtain ⟨t, rfl, ht⟩ := ev_rs_int hr
        obtain ⟨ws, hP, hD, hS, hW, hn⟩ := id hJ
        have fin : ∀ (a0 : vp_A), (∀ cA : ClassId, vp_cell cA a0 = arrV cA x.toNatClampNeg (fun _ => defaultValue (newarray.typeOf t9))) → (∀ (q : Nat) (cA : ClassId), ev_Ar s cA (newarray.typeOf t9) → ev_c s (ad ++ [q]) b (.inl (newarray.typeOf t9, x.toNatClampNeg, [])) (.inl (cA, a0))) → (∀ t, newarray.typeOf t9 = .array t → False) → W p l e R s m args below meth c H locs cells slots Q (F0 m pc ls (.int x :: t)) := fun a0 ha0 hc0 hna =>
          va_newa hexec hb (hts _ (hac _ hm)) rfl hK hP hD hS hA ha0 g1 rfl g2 hcells hslots hdg (fun q cA H1 hK1 hP1 hD1 hS1 => k H1 locs (ad ++ [q]) _ ⟨[q], rfl⟩ (ev_J_push hW hn (hc0 q cA ⟨(hK1.2 0 _ rfl).1, (hK1.2 0 _ rfl).2, fun t e => (hna t e).elim⟩) hP1 hD1 hS1) ⟨⟨q, by rw [← hn]; exact ev_W_last hW q, rfl⟩, ev_rs_mono [q] ht⟩)
        cases t9 with
        | int => exact fin (x.toNatClampNeg, .inl fun _ => 0) (fun cA => rfl) (fun q cA hAr => ⟨cA, hAr, rfl⟩) (fun t e => by cases e)
        | byte => exact fin (x.toNatClampNeg, .inl fun _ => 0) (fun cA => rfl) (fun q cA hAr => ⟨cA, hAr, rfl⟩) (fun t e => by cases e)
        | boolean => exact fin (x.toNatClampNeg, .inl fun _ => 0) (fun cA => rfl) (fun q cA hAr => ⟨cA, hAr, rfl⟩) (fun t e => by cases e)
        | long => exact fin (x.toNatClampNeg, .inr (.inl fun _ => 0)) (fun cA => rfl) (fun q cA hAr => ⟨cA, hAr, rfl⟩) (fun t e => by cases e)
        | _ => exact absurd hm (by decide)
      · cases h9
    · cases h9
  | anewarray x9 =>
    obtain ⟨rfl, h9⟩ := ev_g_ok h
    split at h9
    · next x r =>
      split at h9
      · next ty hty =>
        have hco := hE.2.2.1 _ _ hty
        split at h9
        · next C =>
          obtain ⟨g1, g2, e1⟩ := ev_newa_ok h9
          cases e1
          obtain ⟨t, rfl, ht⟩ := ev_rs_int hr
          obtain ⟨ws, hP, hD, hS, hW, hn⟩ := id hJ
          exact va_newq hexec hb hown (hts _ hco.1) (hov _ hco.2) hK hP hD hS hA g1 rfl g2 hcells hslots hdg (fun q cA H1 hK1 hP1 hD1 hS1 => k H1 locs (ad ++ [q]) _ ⟨[q], rfl⟩ (ev_J_push hW hn ⟨cA, ⟨(hK1.2 0 _ rfl).1, (hK1.2 0 _ rfl).2, fun t e => by cases e⟩, _, rfl, fun j => rfl⟩ hP1 hD1 hS1) ⟨⟨q, by rw [← hn]; exact ev_W_last hW q, rfl⟩, ev_rs_mono [q] ht⟩)
        · cases h9
        · next t8 hne =>
          have hco : Cond.classLink own x9 (FieldType.array t8).toString ∈ Ts ∧ FieldType.array t8 ∈ ov := by cases t8 <;> first | exact (hne _ rfl).elim | exact hco
          obtain ⟨g1, g2, e1⟩ := ev_newa_ok h9
          cases e1
          obtain ⟨t, rfl, ht⟩ := ev_rs_int hr
          obtain ⟨ws, hP, hD, hS, hW, hn⟩ := id hJ
          exact ev_newqA hexec hb hown (hts _ hco.1) (hov _ hco.2) hP hD hS hA g1 g2 hcells hslots hdg (fun q cA H1 hAr hP1 hD1 hS1 => k H1 locs (ad ++ [q]) _ ⟨[q], rfl⟩ (ev_J_push hW hn ⟨cA, hAr, _, rfl, fun j => rfl⟩ hP1 hD1 hS1) ⟨⟨q, by rw [← hn]; exact ev_W_last hW q, rfl⟩, ev_rs_mono [q] ht⟩)
        · cases h9
      · cases h9
    · cases h9
  | multianewarray x9 d9 =>
    obtain ⟨rfl, h9⟩ := ev_g_ok h
    split at h9
    · next hd =>
      obtain rfl := Nat.eq_of_beq_eq_true hd
      split at h9
      · next z y r =>
        split at h9
        · next hty =>
          have hco := hE.2.2.1 _ _ hty
          obtain ⟨g1, g2, g3, g4, e1⟩ := ev_mna_ok h9
          cases e1
          obtain ⟨t0, rfl, ht0⟩ := ev_rs_int hr
          obtain ⟨t, rfl, ht⟩ := ev_rs_int ht0
          obtain ⟨ws, hP, hD, hS, hW, hn⟩ := id hJ
          refine ev_multi hexec hb hown (hts _ hco.1) (hov _ hco.2.1) (hts _ hco.2.2) hP hD hS hA g1 g2 g3 g4 hcells hslots hdg (fun q cA cy H1 a1 a2 hP1 hD1 hS1 => k H1 locs _ _ ⟨_, rfl⟩ ⟨_, hP1, hD1, hS1, ev_W_multi hW hn a1 a2 q _ _, by simp [ev_rows, hn, Nat.add_comm]⟩ ⟨⟨q, ?_, rfl⟩, ev_rs_mono _ ht⟩)
          have hl : ad.length = n := by rw [← hn, hW.2.1, ← hW.1, List.length_map]
          rw [← hl, List.getElem?_append_right (Nat.le_refl _), Nat.sub_self]
          rfl
        · cases h9
      · cases h9
    · cases h9
  | new x =>
    obtain ⟨rfl, h9⟩ := ev_g_ok h
    split at h9
    · next ci hci =>
      have e1 := Option.some.inj h9
      cases e1
      obtain ⟨q, q1, q2, q3, q4⟩ := hE.2.1 _ _ hci
      obtain ⟨c1, c2, c3, c4, -⟩ := hcl _ _ q1
      obtain ⟨ws, hP, hD, hS, hW, hn⟩ := id hJ
      rw [← c2] at hslots k
      exact va_new (ci := ci) (C := q.1) (T := q.2.1) (N := q.2.2) (fs := (List.range q.2.2).map (fun k => defaultValue (ft ci k))) hexec hb hts c3 (ft ci) c4 hown (hts _ q2) (hts _ q3) (hts _ q4) hK hP hD hS hA q1 (fun j hj => by simp [vp_V, hj]) hcells hslots hdg (fun q9 H1 hP1 hD1 hS1 => k H1 locs (ad ++ [q9]) _ ⟨[q9], rfl⟩ (ev_J_push hW hn ⟨_, rfl, ev_dfl _ _ _ _⟩ hP1 hD1 hS1) ⟨⟨q9, by rw [← hn]; exact ev_W_last hW q9, rfl⟩, ev_rs_mono [q9] hr⟩)
    · cases h9
  | _ => exact absurd (show (none : Option ev_O) = some (pc', st', h', n', dc, ds) from h) (fun q => by cases q)
end EVM
