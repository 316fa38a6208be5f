/-! LATER ARRAYS: the rows of edits and of signs are made when they are first written -/
def ev_chk (S : ev_St) (b : Bool) (k : Nat) : Prop := 724 ≤ k ∧ k < ev_sN S ∧ S.2.2.2.1 k = b
def ev_chT : Bool → FieldType
  | false => .int
  | true => .byte
def ev_nwc (S : ev_St) (b : Bool) : ev_St := (fun a i => if a = ev_sN S then 0 else S.1 a i, S.2.1, S.2.2.1, fun a => if a = ev_sN S then b else S.2.2.2.1 a, ev_sN S + 1, ev_sC S + 1, ev_sZ S + 1024)
section EVH
variable {β γ : Type} {X : ev_X} {M : ev_M} {d pc pc' : Nat} {lv lv' : List (Nat × Value)} {st st' as rest : List Value} {S : ev_St} {enc : β → Option Value ⊕ String} {P : β → Prop} {y ci f fin z k : Nat} {b : Bool}
theorem ev_shs_no {k : Nat} (h : 724 ≤ k) : ev_shs[k]? = none := List.getElem?_eq_none (by rw [ev_shs_len]; exact h)
theorem ev_sh_no {k : Nat} (h : 724 ≤ k) (hb : S.2.2.2.1 k = b) : ev_sh S k = (1, 1024, ev_chT b, 0, 0) := by
  unfold ev_sh
  rw [ev_shs_no h, hb]
  cases b <;> rfl
theorem ev_V_chk {h : List ev_E} (hV : ev_V h S) (hk : ev_chk S b k) : ∃ l, h[k]? = some (.inl (ev_chT b, 1024, l)) ∧ ∀ i, i < 1024 → (ev_int (ev_rd (.int 0) l i)).toInt = S.1 k i := by
  obtain ⟨h1, h2, -, h4, -⟩ := hV
  have hl : k < h.length := by rw [h1]; exact hk.2.1
  have e := List.getElem?_eq_getElem hl
  have c := h4 k _ e
  rw [ev_sh_no hk.1 hk.2.2] at c
  obtain ⟨l, c1, c2⟩ := c
  exact ⟨l, by rw [e, c1], c2⟩
theorem ev_V_chst {h : List ev_E} {l : List (Nat × Value)} {i : Nat} {x : Int} (hV : ev_V h S) (hk : ev_chk S b k) (hl : ∀ i, i < 1024 → (ev_int (ev_rd (.int 0) l i)).toInt = S.1 k i) (hx : ev_rng x) : ev_V (h.set k (.inl (ev_chT b, 1024, (i, .int (Int32.ofInt x)) :: l))) (ev_pI S k i x) := by
  refine ev_V_upd (S' := ev_pI S k i x) hV (ev_sh_no hk.1 hk.2.2) rfl rfl (ev_pI_rng hV.2.2.1 hx) (fun a b ha => ev_pI_ne ha) (fun _ _ _ => rfl) (fun _ _ _ => rfl) ?_ hV.2.2.2.2
  refine ⟨_, rfl, fun j hj => ?_⟩
  rw [ev_rd_cons]
  by_cases hij : j = i
  · subst hij
    rw [if_pos rfl, ev_pI_eq]
    exact ev_oi hx
  · rw [if_neg hij, ev_pI_ne2 hij]
    exact hl j hj
theorem ev_nwc_ty {t r : Nat} (h : ev_ty S t r) : ev_ty (ev_nwc S b) t r := by
  rcases h with h | h
  · exact Or.inl h
  · refine Or.inr ?_
    have key : ∀ q : Nat, q < ev_sN S → (if q = ev_sN S then b else S.2.2.2.1 q) = S.2.2.2.1 q := fun q hq => if_neg (by omega)
    split at h
    · exact h
    · exact ⟨h.1, by have := h.2.1; show _ < ev_sN S + 1; omega, (key _ h.2.1).trans h.2.2⟩
    · exact ⟨h.1, by have := h.2.1; show _ < ev_sN S + 1; omega, (key _ h.2.1).trans h.2.2⟩
    · exact h
theorem ev_V_nwc {h : List ev_E} (hV : ev_V h S) : ev_V (h ++ [.inl (ev_chT b, 1024, [])]) (ev_nwc S b) := by
  obtain ⟨h1, h2, h3, h4, h5, h6⟩ := hV
  refine ⟨by rw [List.length_append, h1]; rfl, Nat.le_succ_of_le h2, fun a i => ?_, fun a e ha => ?_, fun a ci f t g1 g2 => ev_nwc_ty (h5 a ci f t g1 g2), fun a i t g => ev_nwc_ty (h6 a i t g)⟩
  · unfold ev_nwc
    dsimp only
    split
    · exact ⟨by decide, by decide⟩
    · exact h3 a i
  · by_cases hn : a = ev_sN S
    · subst hn
      rw [List.getElem?_append_right (by omega), h1, Nat.sub_self] at ha
      cases ha
      have e1 : ev_sh (ev_nwc S b) (ev_sN S) = (1, 1024, ev_chT b, 0, 0) := ev_sh_no h2 (if_pos rfl)
      rw [e1]
      refine ⟨[], rfl, fun i _ => ?_⟩
      show (0 : Int) = if ev_sN S = ev_sN S then 0 else _
      rw [if_pos rfl]
    · have hlt : a < h.length := by
        have := (List.getElem?_eq_some_iff.mp ha).1
        rw [List.length_append, h1] at this
        have h9 : a < ev_sN S + 1 := this
        omega
      rw [List.getElem?_append_left hlt] at ha
      have e1 : ev_sh (ev_nwc S b) a = ev_sh S a := by
        unfold ev_sh
        have e2 : (ev_nwc S b).2.2.2.1 a = S.2.2.2.1 a := if_neg hn
        rw [e2]
      rw [e1]
      exact ev_cv_congr (S' := ev_nwc S b) (fun f => if_neg hn) (fun _ => rfl) (fun _ => rfl) (h4 a e ha)
theorem ev_r_memD {J : Option (β × ev_St)} {S1 : ev_St} {dc ds : Nat} (hC : ev_sC S1 = ev_sC S + dc) (hZ : ev_sZ S1 = ev_sZ S + ds) (hs : ∀ h, ev_V h S → ∃ h1, (∀ call, ev_sF X call M pc lv st h (ev_sN S) = some (pc', lv', st', h1, ev_sN S1, dc, ds)) ∧ ev_V h1 S1) (hw : ev_w X M d pc' lv' st' S1 J enc P) : ev_w X M d pc lv st S J enc P := by
  intro x S' hJ h hV
  obtain ⟨h1, e1, hV1⟩ := hs h hV
  obtain ⟨w0, w1, w2, B, h', q3, hB⟩ := hw x S' hJ h1 hV1
  rw [hC] at w1
  rw [hZ] at w2
  refine ⟨w0, by omega, by omega, B + 1, h', q3, fun F f hF hf a b => ?_⟩
  obtain ⟨g, rfl⟩ : ∃ g, f = g + 1 := ⟨f - 1, by omega⟩
  obtain ⟨r, q1, q2⟩ := hB F g (by omega) (by omega) (a + dc) (b + ds)
  refine ⟨r, ?_, ?_⟩
  · unfold ev_run
    rw [e1]
    exact q1
  · rw [q2, hC, hZ, show a + dc + (ev_sC S' - (ev_sC S + dc)) = a + (ev_sC S' - ev_sC S) by omega, show b + ds + (ev_sZ S' - (ev_sZ S + ds)) = b + (ev_sZ S' - ev_sZ S) by omega]
theorem ev_r_newc {J : ev_St → Option (β × ev_St)} {q : Instr} (hi : M.1 pc = some (q, 2)) (hq : (b = false ∧ q = .newarray .int) ∨ (b = true ∧ q = .newarray .byte)) (hw : ∀ S1, ev_chk S1 b (ev_sN S) → ev_w X M d (pc + 2) lv (.ref (ev_sN S) :: st) S1 (J S1) enc P) : ev_w X M d pc lv (.int (Int32.ofInt 1024) :: st) S (ev_b (ev_nwc S b) J) enc P :=
  ev_w_V (fun h0 hV0 => ev_r_memD (S1 := ev_nwc S b) (dc := 1) (ds := 1024) rfl rfl (fun h hV => ⟨h ++ [.inl (ev_chT b, 1024, [])], fun call => by
    have e : ev_mem ev_CN ev_ft ev_nf (ev_PEs M.2.2.1) M.2.2.2.1 q 2 pc (.int (Int32.ofInt 1024) :: st) h (ev_sN S) = some (pc + 2, .ref (ev_sN S) :: st, h ++ [.inl (ev_chT b, 1024, [])], ev_sN S + 1, 1, 1024) := by
      rcases hq with ⟨rfl, rfl⟩ | ⟨rfl, rfl⟩ <;> rfl
    have e0 : ev_pure M.2.1 q 2 pc lv (.int (Int32.ofInt 1024) :: st) = none := by
      rcases hq with ⟨rfl, rfl⟩ | ⟨rfl, rfl⟩ <;> rfl
    unfold ev_sF ev_one
    rw [hi]
    dsimp only
    rw [e0]
    dsimp only
    rw [e]
    rfl, ev_V_nwc hV⟩) (hw (ev_nwc S b) ⟨hV0.2.1, Nat.lt_succ_self _, if_pos rfl⟩))
theorem ev_ma_sh {c : Nat} (hc : c = 259 ∨ c = 260) : ∃ N C, ev_shs[c]? = some (4, N, .array C, 0, 0) ∧ ((c = 259 ∧ N = 512 ∧ C = .int) ∨ (c = 260 ∧ N = 1024 ∧ C = .byte)) := by
  rcases hc with rfl | rfl
  · exact ⟨512, .int, by decide +kernel, Or.inl ⟨rfl, rfl, rfl⟩⟩
  · exact ⟨1024, .byte, by decide +kernel, Or.inr ⟨rfl, rfl, rfl⟩⟩
theorem ev_r_aldc {J : Nat → Option (β × ev_St)} {i : Int} {c N t : Nat} {C : FieldType} (hs : ev_shs[c]? = some (4, N, .array C, 0, 0)) (hm : ev_ma c = some t) (hr : ev_rng i) (hi : M.1 pc = some (.aaload, 1)) (hw : ∀ r, ev_ty S t r → ev_w X M d (pc + 1) lv (ev_nv r :: st) S (J r) enc P) : ev_w X M d pc lv (.int (Int32.ofInt i) :: .ref c :: st) S (ev_if (0 ≤ i ∧ i < (N : Int)) (ev_b (S.2.2.1 c i.toNat) J)) enc P :=
  ev_r_chk (fun hb => ev_w_V (fun h0 hV0 => ev_r_mm (S1 := S) rfl rfl rfl hi rfl (fun h hV => ⟨h, by
    obtain ⟨e, h1, l, rfl, h3⟩ := ev_V_cell hV hs
    obtain ⟨b1, b2⟩ := ev_in_oi (N := N) hr hb
    show (match h[c]? with
      | some (.inl (.object C, N, l)) => ev_ald false true [.object C] pc st h (ev_sN S) (Int32.ofInt i) (some (.inl (.object C, N, l)))
      | some (.inl (.array t, N, l)) => ev_ald false true [.array t] pc st h (ev_sN S) (Int32.ofInt i) (some (.inl (.array t, N, l)))
      | _ => none) = _
    rw [h1]
    unfold ev_ald
    dsimp only
    rw [b1, b2, decide_eq_true (List.mem_singleton.mpr rfl)]
    show some (pc + 1, ev_ref (ev_rd .null l i.toNat) :: st, h, ev_sN S, 0, 0) = _
    rw [h3 i.toNat (by omega)], hV⟩) (hw _ (hV0.2.2.2.2.2 c _ t hm))))
theorem ev_r_astc {J : ev_St → Option (β × ev_St)} {i : Int} {c N t : Nat} (hs : ev_shs[c]? = some (4, N, .array (ev_chT b), 0, 0)) (hm : ev_ma c = some t) (ht : t = (match b with
      | false => 102
      | true => 103)) (hk : ev_chk S b k) (hr : ev_rng i) (hi : M.1 pc = some (.aastore, 1)) (hw : ∀ S1, ev_chk S1 b k → ev_w X M d (pc + 1) lv st S1 (J S1) enc P) : ev_w X M d pc lv (.ref k :: .int (Int32.ofInt i) :: .ref c :: st) S (ev_if (0 ≤ i ∧ i < (N : Int)) (ev_b (ev_pR S c i.toNat (k + 1)) J)) enc P :=
  ev_r_chk (fun hb => ev_r_mm (S1 := ev_pR S c i.toNat (k + 1)) rfl rfl rfl hi rfl (fun h hV => by
    obtain ⟨e, h1, l, rfl, h3⟩ := ev_V_cell hV hs
    obtain ⟨l2, k1, -⟩ := ev_V_chk hV hk
    refine ⟨h.set c (.inl (.array (ev_chT b), N, (i.toNat, .ref k) :: l)), ?_, ?_⟩
    · show (match h[c]? with
        | some (.inl (ty, N, l)) => (match ev_asg ev_CN ty h[k]? with
          | true => ev_ast [ty] pc st h (ev_sN S) c (Int32.ofInt i) (.ref k) (some (.inl (ty, N, l)))
          | false => none)
        | _ => none) = _
      rw [h1]
      have ea : ev_asg ev_CN (.array (ev_chT b)) h[k]? = true := by
        rw [k1]
        exact decide_eq_true rfl
      dsimp only
      rw [ea]
      have := ev_m_ast (S := S) (pc := pc) (st := st) (ts := [.array (ev_chT b)]) (v := .ref k) h1 (decide_eq_true (List.mem_singleton.mpr rfl)) hr hb
      rw [h1] at this
      exact this
    · refine ev_V_upd (S' := ev_pR S c i.toNat (k + 1)) hV (ev_sh_of hs) rfl rfl hV.2.2.1 (fun _ _ _ => rfl) (fun _ _ _ => rfl) (fun a b ha => ev_pR_ne ha) ?_ ⟨fun a c' g t' ha hg => ?_, fun a q t' ha => ?_⟩
      · refine ⟨_, rfl, fun q hq => ?_⟩
        rw [ev_rd_cons]
        by_cases hiq : q = i.toNat
        · subst hiq
          rw [if_pos rfl, ev_pR_eq]
          rfl
        · rw [if_neg hiq, ev_pR_ne2 hiq]
          exact h3 q hq
      · rw [ev_ty_pR]
        have h15 : a ≠ c := fun e => by
          subst e
          obtain ⟨t, e2⟩ := ev_isOb_sh ha
          rw [hs] at e2
          cases e2
        rw [ev_pR_ne h15]
        exact hV.2.2.2.2.1 a c' g t' ha hg
      · rw [ev_ty_pR]
        by_cases hac : a = c
        · subst hac
          rw [hm] at ha
          cases ha
          by_cases hiq : q = i.toNat
          · subst hiq
            rw [ev_pR_eq]
            refine Or.inr ?_
            cases b with
            | false => subst ht; exact hk
            | true => subst ht; exact hk
          · rw [ev_pR_ne2 hiq]
            exact hV.2.2.2.2.2 a q t hm
        · rw [ev_pR_ne hac]
          exact hV.2.2.2.2.2 a q t' ha) (hw _ hk))
theorem ev_r_ialdc {J : Int → Option (β × ev_St)} {i : Int} (hk : ev_chk S false k) (hr : ev_rng i) (hi : M.1 pc = some (.iaload, 1)) (hw : ∀ x, ev_rng x → ev_w X M d (pc + 1) lv (.int (Int32.ofInt x) :: st) S (J x) enc P) : ev_w X M d pc lv (.int (Int32.ofInt i) :: .ref k :: st) S (ev_if (0 ≤ i ∧ i < (1024 : Int)) (ev_b (S.1 k i.toNat) J)) enc P :=
  ev_r_chk (fun hb => ev_w_V (fun h0 hV0 => ev_r_mm (S1 := S) rfl rfl rfl hi rfl (fun h hV => ⟨h, by
    obtain ⟨l, h1, h2⟩ := ev_V_chk hV hk
    obtain ⟨b1, b2⟩ := ev_in_oi (N := 1024) hr hb
    show ev_ald false false [.int] pc st h (ev_sN S) (Int32.ofInt i) h[k]? = _
    rw [h1]
    unfold ev_ald
    dsimp only
    rw [b1, b2]
    show some (pc + 1, Value.int (ev_int (ev_rd (.int 0) l i.toNat)) :: st, h, ev_sN S, 0, 0) = _
    rw [← h2 i.toNat (by omega), ev_io], hV⟩) (hw _ (hV0.2.2.1 k _))))
theorem ev_r_baldc {J : Int → Option (β × ev_St)} {i : Int} (hk : ev_chk S true k) (hr : ev_rng i) (hi : M.1 pc = some (.baload, 1)) (hw : ∀ x, ev_rng x → ev_w X M d (pc + 1) lv (.int (Int32.ofInt x) :: st) S (J x) enc P) : ev_w X M d pc lv (.int (Int32.ofInt i) :: .ref k :: st) S (ev_if (0 ≤ i ∧ i < (1024 : Int)) (ev_b (S.1 k i.toNat) J)) enc P :=
  ev_r_chk (fun hb => ev_w_V (fun h0 hV0 => ev_r_mm (S1 := S) rfl rfl rfl hi rfl (fun h hV => ⟨h, by
    obtain ⟨l, h1, h2⟩ := ev_V_chk hV hk
    obtain ⟨b1, b2⟩ := ev_in_oi (N := 1024) hr hb
    show ev_ald false false [.byte, .boolean] pc st h (ev_sN S) (Int32.ofInt i) h[k]? = _
    rw [h1]
    unfold ev_ald
    dsimp only
    rw [b1, b2]
    show some (pc + 1, Value.int (ev_int (ev_rd (.int 0) l i.toNat)) :: st, h, ev_sN S, 0, 0) = _
    rw [← h2 i.toNat (by omega), ev_io], hV⟩) (hw _ (hV0.2.2.1 k _))))
theorem ev_r_iastc {J : ev_St → Option (β × ev_St)} {i x : Int} (hk : ev_chk S false k) (hx : ev_rng x) (hr : ev_rng i) (hi : M.1 pc = some (.iastore, 1)) (hw : ∀ S1, ev_w X M d (pc + 1) lv st S1 (J S1) enc P) : ev_w X M d pc lv (.int (Int32.ofInt x) :: .int (Int32.ofInt i) :: .ref k :: st) S (ev_if (0 ≤ i ∧ i < (1024 : Int)) (ev_b (ev_pI S k i.toNat x) J)) enc P :=
  ev_r_chk (fun hb => ev_r_mm (S1 := ev_pI S k i.toNat x) rfl rfl rfl hi rfl (fun h hV => by
    obtain ⟨l, h1, h2⟩ := ev_V_chk hV hk
    exact ⟨_, ev_m_ast (ts := [.int]) (v := .int (Int32.ofInt x)) h1 rfl hr hb, ev_V_chst hV hk h2 hx⟩) (hw _))
theorem ev_r_bastc {J : ev_St → Option (β × ev_St)} {i x : Int} (hk : ev_chk S true k) (hn : narrow .byte (.int (Int32.ofInt x)) = .int (Int32.ofInt x)) (hx : ev_rng x) (hr : ev_rng i) (hi : M.1 pc = some (.bastore, 1)) (hw : ∀ S1, ev_w X M d (pc + 1) lv st S1 (J S1) enc P) : ev_w X M d pc lv (.int (Int32.ofInt x) :: .int (Int32.ofInt i) :: .ref k :: st) S (ev_if (0 ≤ i ∧ i < (1024 : Int)) (ev_b (ev_pI S k i.toNat x) J)) enc P :=
  ev_r_chk (fun hb => ev_r_mm (S1 := ev_pI S k i.toNat x) rfl rfl rfl hi rfl (fun h hV => by
    obtain ⟨l, h1, h2⟩ := ev_V_chk hV hk
    refine ⟨_, ev_m_ast (ts := [.byte, .boolean]) (v := .int (Int32.ofInt x)) h1 rfl hr hb, ?_⟩
    show ev_V (h.set k (.inl (.byte, 1024, (i.toNat, narrow .byte (.int (Int32.ofInt x))) :: l))) _
    rw [hn]
    exact ev_V_chst hV hk h2 hx) (hw _))
end EVH
