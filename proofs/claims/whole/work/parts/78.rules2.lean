/-! classes of one object -/
def ev_onl (ci c : Nat) : Nat → List (Nat × Nat × FieldType × Nat × Nat) → Bool
  | _, [] => true
  | i, s :: l => (match s with
    | (0, a, _) => (match Nat.beq a ci with
      | true => Nat.beq i c
      | false => true)
    | _ => true) && ev_onl ci c (i + 1) l
theorem ev_onl_ok {ci c : Nat} : ∀ {l : List (Nat × Nat × FieldType × Nat × Nat)} {i : Nat}, ev_onl ci c i l = true → ∀ k t, l[k]? = some (0, ci, t) → i + k = c
  | [], _, _, k, t, h => by cases h
  | s :: l, i, hl, 0, t, h => by
    rw [List.getElem?_cons_zero] at h
    cases h
    unfold ev_onl at hl
    rw [Bool.and_eq_true] at hl
    have h1 : (match Nat.beq ci ci with
      | true => Nat.beq i c
      | false => true) = true := hl.1
    rw [Nat.beq_refl] at h1
    exact Nat.eq_of_beq_eq_true h1
  | s :: l, i, hl, k + 1, t, h => by
    rw [List.getElem?_cons_succ] at h
    unfold ev_onl at hl
    rw [Bool.and_eq_true] at hl
    have := ev_onl_ok hl.2 k t h
    omega
theorem ev_only {ci c k : Nat} (e : ev_onl ci c 0 ev_shs = true) (h : ev_isOb k ci = true) : k = c := by
  obtain ⟨t, hs⟩ := ev_isOb_sh h
  have := ev_onl_ok e k t hs
  omega
section EVR2
variable {β γ : Type} {X : ev_X} {M : ev_M} {d pc pc' : Nat} {lv lv' : List (Nat × Value)} {st st' as rest : List Value} {S : ev_St} {enc : β → Option Value ⊕ String} {P : β → Prop} {y ci f fin z k : Nat}
theorem ev_r_dr2 {J : Option (β × ev_St)} {r : Nat} (g : Value → List Value) (hr : r ≠ 0) (hk : r - 1 = k) (hw : ev_w X M d pc lv (g (.ref k)) S J enc P) : ev_w X M d pc lv (g (ev_nv r)) S J enc P := by
  rw [ev_nv_ref hr, hk]
  exact hw
/-- the length of an array of references -/
theorem ev_r_alenC {J : Option (β × ev_St)} {kd N : Nat} {t : FieldType × Nat × Nat} (hkd : kd = 3 ∨ kd = 4) (hi : M.1 pc = some (.arraylength, 1)) (hk : ev_shs[k]? = some (kd, N, t)) (hw : ev_w X M d (pc + 1) lv (.int (Int32.ofInt (N : Int)) :: st) S J enc P) : ev_w X M d pc lv (.ref k :: st) S J enc P :=
  ev_r_mm (S1 := S) rfl rfl rfl hi rfl (fun h hV => ⟨h, by
    obtain ⟨e, h1, h2⟩ := ev_V_cell hV hk
    obtain ⟨t1, t2, t3⟩ := t
    have h3 : ∃ l, e = .inl (t1, N, l) := by
      rcases hkd with rfl | rfl
      · obtain ⟨l, e1, -⟩ := h2
        exact ⟨l, e1⟩
      · obtain ⟨l, e1, -⟩ := h2
        exact ⟨l, e1⟩
    obtain ⟨l, rfl⟩ := h3
    show ev_len pc st h (ev_sN S) h[k]? = _
    rw [h1, Int32.ofInt_eq_ofNat]
    rfl, hV⟩) hw
/-! switches -/
theorem ev_pure_lsw {nL len : Nat} {dflt : Int} {ps : Array (Int × Int)} : ev_pure nL (.lookupswitch dflt ps) len pc lv st = ev_lsw pc lv dflt ps st := rfl
theorem ev_pure_tsw {nL len : Nat} {dflt lo hi : Int} {ps : Array Int} : ev_pure nL (.tableswitch dflt lo hi ps) len pc lv st = ev_tsw pc lv dflt lo hi ps st := rfl
theorem ev_tsw_c {lo hi dflt lit o : Int} {offs : Array Int} {t : Nat} {r : List Value} (hr : ev_rng lit) (h1 : lo ≤ lit ∧ lit ≤ hi) (ho : offs[(lit - lo).toNat]? = some o) (ht : ev_tg pc o = some t) : ev_tsw pc lv dflt lo hi offs (.int (Int32.ofInt lit) :: r) = some (t, lv, r) := by
  unfold ev_tsw
  dsimp only
  rw [ev_oi hr, decide_eq_false (by omega)]
  dsimp only
  rw [ho]
  show ev_to lv r (ev_tg pc o) = _
  rw [ht]
  rfl
theorem ev_tsw_d {lo hi dflt x : Int} {offs : Array Int} {t : Nat} {r : List Value} (hr : ev_rng x) (h1 : x < lo ∨ hi < x) (ht : ev_tg pc dflt = some t) : ev_tsw pc lv dflt lo hi offs (.int (Int32.ofInt x) :: r) = some (t, lv, r) := by
  unfold ev_tsw
  dsimp only
  rw [ev_oi hr, decide_eq_true h1]
  show ev_to lv r (ev_tg pc dflt) = _
  rw [ht]
  rfl
theorem ev_lsw_c {dflt x o : Int} {ps : Array (Int × Int)} {t : Nat} {r : List Value} (hr : ev_rng x) (ha : (ps.toList.zip (ps.toList.drop 1)).all (fun (a, next) => a.1 < next.1) = true) (ho : Op.lookupswitch.offset ps.toList dflt x = o) (ht : ev_tg pc o = some t) : ev_lsw pc lv dflt ps (.int (Int32.ofInt x) :: r) = some (t, lv, r) := by
  unfold ev_lsw
  dsimp only
  rw [ha]
  dsimp only
  rw [ev_oi hr, ho]
  show ev_to lv r (ev_tg pc o) = _
  rw [ht]
  rfl
/-! arraycopy -/
def ev_cpI (S : ev_St) (k0 k1 sp dp n : Nat) : ev_St := (fun a b => if a = k1 ∧ dp ≤ b ∧ b < dp + n then S.1 k0 (sp + (b - dp)) else S.1 a b, S.2)
def ev_cpL (S : ev_St) (k0 k1 sp dp n : Nat) : ev_St := (S.1, fun a b => if a = k1 ∧ dp ≤ b ∧ b < dp + n then S.2.1 k0 (sp + (b - dp)) else S.2.1 a b, S.2.2)
theorem ev_cpI_rng {k0 k1 sp dp n : Nat} (hS : ∀ a b, ev_rng (S.1 a b)) : ∀ a b, ev_rng ((ev_cpI S k0 k1 sp dp n).1 a b) := fun a b => by
  unfold ev_cpI
  dsimp only
  split
  · exact hS _ _
  · exact hS _ _
theorem ev_oi_n0 {x : Int} (hr : ev_rng x) (h : 0 ≤ x) : decide (Int32.ofInt x < 0) = false ∧ (Int32.ofInt x).toNatClampNeg = x.toNat := by
  have e := ev_oi hr
  refine ⟨decide_eq_false (fun h1 => ?_), by rw [← Int32.toNat_toInt, e]⟩
  rw [Int32.lt_iff_toInt_lt, e] at h1
  have h1 : x < 0 := h1
  omega
theorem ev_V_cpI {h : List ev_E} {k0 k1 sp dp n : Nat} {l0 l1 : List (Nat × Value)} (hV : ev_V h S) (hk0 : ev_isAb k0 1 .int = true) (hk1 : ev_isAb k1 1 .int = true) (h0 : ∀ i, i < ev_aln k0 → (ev_int (ev_rd (.int 0) l0 i)).toInt = S.1 k0 i) (h1 : ∀ i, i < ev_aln k1 → (ev_int (ev_rd (.int 0) l1 i)).toInt = S.1 k1 i) (hs : sp + n ≤ ev_aln k0) : ev_V (h.set k1 (.inl (.int, ev_aln k1, ev_cpy (.int 0) l0 l1 sp dp n))) (ev_cpI S k0 k1 sp dp n) := by
  obtain ⟨t, hsh⟩ := ev_isAb_sh hk1
  refine ev_V_upd (S' := ev_cpI S k0 k1 sp dp n) hV (ev_sh_of hsh) rfl rfl (ev_cpI_rng hV.2.2.1) (fun a b ha => if_neg (fun e => ha e.1)) (fun _ _ _ => rfl) (fun _ _ _ => rfl) ?_ hV.2.2.2.2
  refine ⟨_, rfl, fun j hj => ?_⟩
  rw [ev_cpy_rd]
  unfold ev_cpI
  dsimp only
  by_cases hb : dp ≤ j ∧ j < dp + n
  · rw [if_pos hb, if_pos ⟨rfl, hb⟩]
    have := h0 (sp + (j - dp)) (by omega)
    exact this
  · rw [if_neg hb, if_neg (fun e => hb e.2)]
    exact h1 j hj
theorem ev_V_cpL {h : List ev_E} {k0 k1 sp dp n : Nat} {l0 l1 : List (Nat × Value)} (hV : ev_V h S) (hk0 : ev_isAb k0 2 .long = true) (hk1 : ev_isAb k1 2 .long = true) (h0 : ∀ i, i < ev_aln k0 → ev_long (ev_rd (.long 0) l0 i) = S.2.1 k0 i) (h1 : ∀ i, i < ev_aln k1 → ev_long (ev_rd (.long 0) l1 i) = S.2.1 k1 i) (hs : sp + n ≤ ev_aln k0) : ev_V (h.set k1 (.inl (.long, ev_aln k1, ev_cpy (.long 0) l0 l1 sp dp n))) (ev_cpL S k0 k1 sp dp n) := by
  obtain ⟨t, hsh⟩ := ev_isAb_sh hk1
  refine ev_V_upd (S' := ev_cpL S k0 k1 sp dp n) hV (ev_sh_of hsh) rfl rfl hV.2.2.1 (fun _ _ _ => rfl) (fun a b ha => if_neg (fun e => ha e.1)) (fun _ _ _ => rfl) ?_ hV.2.2.2.2
  refine ⟨_, rfl, fun j hj => ?_⟩
  rw [ev_cpy_rd]
  unfold ev_cpL
  dsimp only
  by_cases hb : dp ≤ j ∧ j < dp + n
  · rw [if_pos hb, if_pos ⟨rfl, hb⟩]
    exact h0 (sp + (j - dp)) (by omega)
  · rw [if_neg hb, if_neg (fun e => hb e.2)]
    exact h1 j hj
theorem ev_s_copy {h h' : List ev_E} {call : Nat → List Value → List ev_E → Nat → Option ev_Z} {sp dp n : Int} {k0 k1 : Nat} (hi : M.1 pc = some (.invokestatic y, 3)) (hl : ev_Lk M.2.2.1 y = some (7, 0, 5)) (hr : ev_rng sp ∧ ev_rng dp ∧ ev_rng n) (hb : 0 ≤ sp ∧ 0 ≤ dp ∧ 0 ≤ n) (hs : Nat.ble (ev_sum st) 8 = true) (hc : (match ev_isInt h[k0]? with
        | true => ev_arr .int (.int 0) k0 k1 sp.toNat dp.toNat n.toNat h h[k0]? h[k1]?
        | false => ev_arr .long (.long 0) k0 k1 sp.toNat dp.toNat n.toNat h h[k0]? h[k1]?) = some h') {m : Nat} : ev_sF X call M pc lv (.int (Int32.ofInt n) :: .int (Int32.ofInt dp) :: .ref k1 :: .int (Int32.ofInt sp) :: .ref k0 :: st) h m = some (pc + 3, lv, st, h', m, 0, 0) := by
  refine ev_one_static hi ?_
  rw [hl]
  obtain ⟨a1, a2⟩ := ev_oi_n0 hr.1 hb.1
  obtain ⟨b1, b2⟩ := ev_oi_n0 hr.2.1 hb.2.1
  obtain ⟨c1, c2⟩ := ev_oi_n0 hr.2.2 hb.2.2
  have e0 : ev_inv ev_P M call pc lv (.int (Int32.ofInt n) :: .int (Int32.ofInt dp) :: .ref k1 :: .int (Int32.ofInt sp) :: .ref k0 :: st) h m 2 (some (7, 0, 5)) = ev_copy pc lv h m (.int (Int32.ofInt n) :: .int (Int32.ofInt dp) :: .ref k1 :: .int (Int32.ofInt sp) :: .ref k0 :: st) := rfl
  rw [e0]
  unfold ev_copy
  dsimp only
  rw [a1, b1, c1, hs, a2, b2, c2]
  show (match (match ev_isInt h[k0]? with
        | true => ev_arr .int (.int 0) k0 k1 sp.toNat dp.toNat n.toNat h h[k0]? h[k1]?
        | false => ev_arr .long (.long 0) k0 k1 sp.toNat dp.toNat n.toNat h h[k0]? h[k1]?) with
      | some h' => some (pc + 3, lv, st, h', m, 0, 0)
      | none => none) = _
  rw [hc]
theorem ev_r_copyI {J : ev_St → Option (β × ev_St)} {sp dp n : Int} {k0 k1 : Nat} (hr : ev_rng sp ∧ ev_rng dp ∧ ev_rng n) (hi : M.1 pc = some (.invokestatic y, 3)) (hl : ev_Lk M.2.2.1 y = some (7, 0, 5)) (hs : Nat.ble (ev_sum st) 8 = true) (hk0 : ev_isAb k0 1 .int = true) (hk1 : ev_isAb k1 1 .int = true) (hw : ∀ S1, ev_w X M d (pc + 3) lv st S1 (J S1) enc P) : ev_w X M d pc lv (.int (Int32.ofInt n) :: .int (Int32.ofInt dp) :: .ref k1 :: .int (Int32.ofInt sp) :: .ref k0 :: st) S (ev_if (0 ≤ sp ∧ 0 ≤ dp ∧ 0 ≤ n ∧ sp + n ≤ (ev_aln k0 : Int) ∧ dp + n ≤ (ev_aln k1 : Int)) (ev_b (ev_cpI S k0 k1 sp.toNat dp.toNat n.toNat) J)) enc P :=
  ev_r_chk (fun hb => ev_r_mem (S1 := ev_cpI S k0 k1 sp.toNat dp.toNat n.toNat) rfl rfl (fun h hV => by
    obtain ⟨l0, e0, f0⟩ := ev_V_arrI hV hk0
    obtain ⟨l1, e1, f1⟩ := ev_V_arrI hV hk1
    refine ⟨_, fun call => ev_s_copy hi hl hr ⟨hb.1, hb.2.1, hb.2.2.1⟩ hs ?_, ev_V_cpI hV hk0 hk1 f0 f1 (by omega)⟩
    rw [e0, e1]
    show ev_arr .int (.int 0) k0 k1 sp.toNat dp.toNat n.toNat h (some (.inl (.int, ev_aln k0, l0))) (some (.inl (.int, ev_aln k1, l1))) = _
    unfold ev_arr
    have b1 : Nat.ble (sp.toNat + n.toNat) (ev_aln k0) = true := Nat.ble_eq.mpr (by omega)
    have b2 : Nat.ble (dp.toNat + n.toNat) (ev_aln k1) = true := Nat.ble_eq.mpr (by omega)
    dsimp only
    rw [b1, b2]
    rfl) (hw _))
theorem ev_r_copyL {J : ev_St → Option (β × ev_St)} {sp dp n : Int} {k0 k1 : Nat} (hr : ev_rng sp ∧ ev_rng dp ∧ ev_rng n) (hi : M.1 pc = some (.invokestatic y, 3)) (hl : ev_Lk M.2.2.1 y = some (7, 0, 5)) (hs : Nat.ble (ev_sum st) 8 = true) (hk0 : ev_isAb k0 2 .long = true) (hk1 : ev_isAb k1 2 .long = true) (hw : ∀ S1, ev_w X M d (pc + 3) lv st S1 (J S1) enc P) : ev_w X M d pc lv (.int (Int32.ofInt n) :: .int (Int32.ofInt dp) :: .ref k1 :: .int (Int32.ofInt sp) :: .ref k0 :: st) S (ev_if (0 ≤ sp ∧ 0 ≤ dp ∧ 0 ≤ n ∧ sp + n ≤ (ev_aln k0 : Int) ∧ dp + n ≤ (ev_aln k1 : Int)) (ev_b (ev_cpL S k0 k1 sp.toNat dp.toNat n.toNat) J)) enc P :=
  ev_r_chk (fun hb => ev_r_mem (S1 := ev_cpL S k0 k1 sp.toNat dp.toNat n.toNat) rfl rfl (fun h hV => by
    obtain ⟨l0, e0, f0⟩ := ev_V_arrL hV hk0
    obtain ⟨l1, e1, f1⟩ := ev_V_arrL hV hk1
    refine ⟨_, fun call => ev_s_copy hi hl hr ⟨hb.1, hb.2.1, hb.2.2.1⟩ hs ?_, ev_V_cpL hV hk0 hk1 f0 f1 (by omega)⟩
    rw [e0, e1]
    show ev_arr .long (.long 0) k0 k1 sp.toNat dp.toNat n.toNat h (some (.inl (.long, ev_aln k0, l0))) (some (.inl (.long, ev_aln k1, l1))) = _
    unfold ev_arr
    have b1 : Nat.ble (sp.toNat + n.toNat) (ev_aln k0) = true := Nat.ble_eq.mpr (by omega)
    have b2 : Nat.ble (dp.toNat + n.toNat) (ev_aln k1) = true := Nat.ble_eq.mpr (by omega)
    dsimp only
    rw [b1, b2]
    rfl) (hw _))
/-! the texts that are read around the one that is read: an array whose references change -/
theorem ev_sh15 : ev_shs[15]? = some (4, 28, .object "MendBench$Text", 0, 0) := by decide +kernel
theorem ev_r_ald15 {J : Nat → Option (β × ev_St)} {i : Int} (hr : ev_rng i) (hi : M.1 pc = some (.aaload, 1)) (hw : ∀ r, (r = 0 ∨ ev_isOb (r - 1) 10 = true) → ev_w X M d (pc + 1) lv (ev_nv r :: st) S (J r) enc P) : ev_w X M d pc lv (.int (Int32.ofInt i) :: .ref 15 :: st) S (ev_if (0 ≤ i ∧ i < (28 : Int)) (ev_b (S.2.2.1 15 i.toNat) J)) enc P :=
  ev_r_chk (fun hb => ev_w_V (fun h0 hV0 => ev_r_mm (S1 := S) rfl rfl rfl hi rfl (fun h hV => ⟨h, by
    obtain ⟨e, h1, l, rfl, h3⟩ := ev_V_cell hV ev_sh15
    obtain ⟨b1, b2⟩ := ev_in_oi (N := 28) hr hb
    show (match h[15]? with
      | some (.inl (.object C, N, l)) => ev_ald false true [.object C] pc st h (ev_sN S) (Int32.ofInt i) (some (.inl (.object C, N, l)))
      | some (.inl (.array t, N, l)) => ev_ald false true [.array t] pc st h (ev_sN S) (Int32.ofInt i) (some (.inl (.array t, N, l)))
      | _ => none) = _
    rw [h1]
    unfold ev_ald
    dsimp only
    rw [b1, b2, decide_eq_true (List.mem_singleton.mpr rfl)]
    show some (pc + 1, ev_ref (ev_rd .null l i.toNat) :: st, h, ev_sN S, 0, 0) = _
    rw [h3 i.toNat (by omega)], hV⟩) (hw _ (hV0.2.2.2.2.2 15 _ 10 rfl))))
theorem ev_r_ast15 {J : ev_St → Option (β × ev_St)} {i : Int} {j : Nat} (hj : ev_isOb j 10 = true) (hr : ev_rng i) (hi : M.1 pc = some (.aastore, 1)) (hw : ∀ S1, ev_w X M d (pc + 1) lv st S1 (J S1) enc P) : ev_w X M d pc lv (.ref j :: .int (Int32.ofInt i) :: .ref 15 :: st) S (ev_if (0 ≤ i ∧ i < (28 : Int)) (ev_b (ev_pR S 15 i.toNat (j + 1)) J)) enc P :=
  ev_r_chk (fun hb => ev_r_mm (S1 := ev_pR S 15 i.toNat (j + 1)) rfl rfl rfl hi rfl (fun h hV => by
    obtain ⟨e, h1, l, rfl, h3⟩ := ev_V_cell hV ev_sh15
    refine ⟨h.set 15 (.inl (.object "MendBench$Text", 28, (i.toNat, .ref j) :: l)), ?_, ?_⟩
    · show (match h[15]? with
        | some (.inl (ty, N, l)) => (match ev_asg ev_CN ty h[j]? with
          | true => ev_ast [ty] pc st h (ev_sN S) 15 (Int32.ofInt i) (.ref j) (some (.inl (ty, N, l)))
          | false => none)
        | _ => none) = _
      rw [h1]
      have ea : ev_asg ev_CN (.object "MendBench$Text") h[j]? = true := by
        rw [ev_V_obj hV hj]
        show decide (FieldType.object "MendBench$Text" = .object (ev_CN 10)) = true
        decide +kernel
      dsimp only
      rw [ea]
      have := ev_m_ast (S := S) (pc := pc) (st := st) (ts := [.object "MendBench$Text"]) (v := .ref j) h1 (decide_eq_true (List.mem_singleton.mpr rfl)) hr hb
      rw [h1] at this
      exact this
    · refine ev_V_upd (S' := ev_pR S 15 i.toNat (j + 1)) hV (ev_sh_of ev_sh15) rfl rfl hV.2.2.1 (fun _ _ _ => rfl) (fun _ _ _ => rfl) (fun a b ha => ev_pR_ne ha) ?_ ⟨fun a c g t' ha hg => ?_, fun a q t' ha => ?_⟩
      · refine ⟨_, rfl, fun q hq => ?_⟩
        rw [ev_rd_cons]
        by_cases hiq : q = i.toNat
        · subst hiq
          rw [if_pos rfl, ev_pR_eq]
          rfl
        · rw [if_neg hiq, ev_pR_ne2 hiq]
          exact h3 q hq
      · rw [ev_ty_pR]
        have h15 : a ≠ 15 := fun e => by
          subst e
          obtain ⟨t, e2⟩ := ev_isOb_sh ha
          rw [ev_sh15] at e2
          cases e2
        rw [ev_pR_ne h15]
        exact hV.2.2.2.2.1 a c g t' ha hg
      · rw [ev_ty_pR]
        by_cases ha15 : a = 15
        · subst ha15
          cases ha
          by_cases hiq : q = i.toNat
          · subst hiq
            rw [ev_pR_eq]
            exact Or.inr hj
          · rw [ev_pR_ne2 hiq]
            exact hV.2.2.2.2.2 15 q 10 rfl
        · rw [ev_pR_ne ha15]
          exact hV.2.2.2.2.2 a q t' ha) (hw _))
/-! calls that may throw, caught or not -/
def ev_bx {γ δ : Type} (Jc : Option ((γ ⊕ String) × ev_St)) (K1 : γ → ev_St → Option δ) (K2 : String → ev_St → Option δ) : Option δ := match Jc with
  | some (.inl x, S1) => K1 x S1
  | some (.inr E, S1) => K2 E S1
  | none => none
theorem ev_s_virtX {h h' : List ev_E} {call : Nat → List Value → List ev_E → Nat → Option ev_Z} {mi na n n' dc ds t : Nat} {E : String} (hi : M.1 pc = some (.invokevirtual y, 3)) (hk : ev_Lk M.2.2.1 y = some (0, mi, na)) (hP : (ev_P mi).isSome = true) (hna : Nat.beq na (ev_Mof mi).2.2.2.2.2.1 = true) (hpop : ev_pop (na + 1) [] st = some (as, rest)) (hs : Nat.ble (ev_sum rest) 8 = true) (hr : ev_recv h (ev_Mof mi).2.2.1 as = true) (ht : ev_hd E pc M.2.2.2.2.2.2.2 = some t) (hc : call mi as h n = some (.inr E, h', n', dc, ds)) : ev_sF X call M pc lv st h n = some (t, lv, [.retAddr 1], h', n', dc, ds) := by
  refine ev_one_virtual hi ?_
  rw [hk, ev_inv_obj (Y := ev_Mof mi) rfl rfl rfl (ev_P_of hP) (by rw [hna]; rfl) rfl hpop (by rw [hs, hr]; rfl)]
  show ev_back M pc lv rest (ev_ansOf true (call mi as h n)) = _
  rw [hc]
  show (match ev_hd E pc M.2.2.2.2.2.2.2 with
    | some t => some (t, lv, [Value.retAddr 1], h', n', dc, ds)
    | none => none) = _
  rw [ht]
theorem ev_r_invX {J : Option (β × ev_St)} {mi t : Nat} {E : String} {S1 : ev_St} {Q : Prop} (hc : ev_Ref d mi as S (.inr E) S1 Q) (hs : ∀ h call h' n' dc ds, ev_V h S → call mi as h (ev_sN S) = some (.inr E, h', n', dc, ds) → ev_sF X call M pc lv st h (ev_sN S) = some (t, lv, [.retAddr 1], h', n', dc, ds)) (hw : ev_w X M d t lv [.retAddr 1] S1 J enc P) : ev_w X M d pc lv st S J enc P := by
  intro x S' hJ h hV
  obtain ⟨q, c1, c2, B1, h1, hV1, e1⟩ := hc h hV
  obtain ⟨w0, w1, w2, B2, h2, hV2, e2⟩ := hw x S' hJ h1 hV1
  refine ⟨w0, Nat.le_trans c1 w1, Nat.le_trans c2 w2, B1 + B2 + 1, h2, hV2, fun F f hF hf a b => ?_⟩
  obtain ⟨g, rfl⟩ : ∃ g, f = g + 1 := ⟨f - 1, by omega⟩
  have s1 := hs h (ev_cF F d) h1 _ _ _ hV (e1 F (by omega))
  obtain ⟨r, r1, r2⟩ := e2 F g (by omega) (by omega) (a + (ev_sC S1 - ev_sC S)) (b + (ev_sZ S1 - ev_sZ S))
  refine ⟨r, ?_, ?_⟩
  · unfold ev_run
    rw [s1]
    exact r1
  · rw [r2, show a + (ev_sC S1 - ev_sC S) + (ev_sC S' - ev_sC S1) = a + (ev_sC S' - ev_sC S) by omega, show b + (ev_sZ S1 - ev_sZ S) + (ev_sZ S' - ev_sZ S1) = b + (ev_sZ S' - ev_sZ S) by omega]
/-- a call of a method that throws; K2 tells, by what is thrown, where it goes on, or nothing -/
theorem ev_r_virtX {Jc : Option ((Int ⊕ String) × ev_St)} {K1 : Int → ev_St → Option (β × ev_St)} {K2 : String → ev_St → Option (β × ev_St)} {mi na k : Nat} (hc : ∀ x S1, Jc = some (x, S1) → ev_Ref d mi (.ref k :: as) S (ev_eX x) S1 (ev_PX x)) (hk : ev_isOb k (ev_Mof mi).2.2.1 = true) (hi : M.1 pc = some (.invokevirtual y, 3)) (hl : ev_Lk M.2.2.1 y = some (0, mi, na)) (hP : (ev_P mi).isSome = true) (hna : Nat.beq na (ev_Mof mi).2.2.2.2.2.1 = true) (hpop : ev_pop (na + 1) [] st = some (.ref k :: as, rest)) (hs : Nat.ble (ev_sum rest) 8 = true) (hw : ∀ x S1, ev_rng x → ev_w X M d (pc + 3) lv (.int (Int32.ofInt x) :: rest) S1 (K1 x S1) enc P) (hx : ∀ E S1, (∃ t, ev_hd E pc M.2.2.2.2.2.2.2 = some t ∧ ev_w X M d t lv [.retAddr 1] S1 (K2 E S1) enc P) ∨ K2 E S1 = none) : ev_w X M d pc lv st S (ev_bx Jc K1 K2) enc P := by
  cases hJ : Jc with
  | none => exact ev_w_none
  | some q =>
    obtain ⟨x, S1⟩ := q
    cases x with
    | inl x => exact ev_r_inv (v := ev_oI x) (rest := rest) (hc _ _ hJ) (fun h call h' n' dc ds hV e => ev_s_virt hi hl hP hna hpop hs (ev_recv_of (ev_V_obj hV hk)) e) (fun q => hw x S1 q)
    | inr E =>
      show ev_w X M d pc lv st S (K2 E S1) enc P
      rcases hx E S1 with ⟨t, h1, h2⟩ | h1
      · exact ev_r_invX (hc _ _ hJ) (fun h call h' n' dc ds hV e => ev_s_virtX hi hl hP hna hpop hs (ev_recv_of (ev_V_obj hV hk)) h1 e) h2
      · rw [h1]
        exact ev_w_none
end EVR2
/-! the script -/
section EVX
variable {β : Type} {M : ev_M} {d pc : Nat} {lv : List (Nat × Value)} {st : List Value} {S : ev_St} {enc : β → Option Value ⊕ String} {P : β → Prop} {L : Nat} {xs : Nat → Int32}
theorem ev_rngL (hL : L ≤ 3072) : ev_rng (L : Int) := ⟨by omega, by omega⟩
theorem ev_r_xlen {J : Option (β × ev_St)} (hi : M.1 pc = some (.arraylength, 1)) (hw : ev_w (some (L, xs)) M d (pc + 1) lv (.int (Int32.ofInt (L : Int)) :: st) S J enc P) : ev_w (some (L, xs)) M d pc lv (.retAddr 0 :: st) S J enc P :=
  ev_r_mem (S1 := S) rfl rfl (fun h hV => ⟨h, fun call => by
    unfold ev_sF ev_one
    rw [hi, Int32.ofInt_eq_ofNat]
    rfl, hV⟩) hw
theorem ev_r_xald {J : Int → Option (β × ev_St)} {i : Int} (hr : ev_rng i) (hi : M.1 pc = some (.iaload, 1)) (hw : ∀ x, ev_rng x → ev_w (some (L, xs)) M d (pc + 1) lv (.int (Int32.ofInt x) :: st) S (J x) enc P) : ev_w (some (L, xs)) M d pc lv (.int (Int32.ofInt i) :: .retAddr 0 :: st) S (ev_if (0 ≤ i ∧ i < (L : Int)) (ev_b (xs i.toNat).toInt J)) enc P :=
  ev_r_chk (fun hb => ev_r_mem (S1 := S) (pc' := pc + 1) (lv' := lv) (st' := .int (xs i.toNat) :: st) rfl rfl (fun h hV => ⟨h, fun call => by
    obtain ⟨b1, b2⟩ := ev_in_oi hr hb
    unfold ev_sF ev_one
    rw [hi]
    show (match ev_in (Int32.ofInt i) L with
      | true => some (pc + 1, lv, Value.int (xs (Int32.ofInt i).toNatClampNeg) :: st, h, ev_sN S, 0, 0)
      | false => none) = _
    rw [b1, b2], hV⟩) (by
    have := hw _ (ev_rng_i (xs i.toNat))
    rw [ev_io] at this
    exact this))
end EVX
