/-! PROGRAMS: the reference writes the class's instructions, one by one -/
section PROG18
variable {Q p d w g a dm b N : Nat} {c : Int} {T U V W : ev_St} {ts L A B : List T3} {R : Nat → INS → T3 → Prop} {C D : List INS} {X : Nat → Int} {Mb : Nat → Prop} {CI : Nat → List INS} {t : T3}
def RLs (R : Nat → INS → T3 → Prop) : Nat → List INS → List T3 → Prop
  | _, [], [] => True
  | w, x :: A, t :: L => R w x t ∧ RLs R (w + 1) A L
  | _, [], _ :: _ => False
  | _, _ :: _, [] => False
theorem RLs_len : ∀ (C : List INS) (L : List T3) (w : Nat), RLs R w C L → L.length = C.length
  | [], [], _, _ => rfl
  | x :: A, t :: L, w, h => by
    rw [List.length_cons, List.length_cons, RLs_len A L (w + 1) h.2]
  | [], _ :: _, _, h => False.elim h
  | _ :: _, [], _, h => False.elim h
theorem RLs_app : ∀ (C : List INS) (L : List T3) (w : Nat) (D : List INS) (B : List T3), RLs R w C L → RLs R (w + C.length) D B → RLs R w (C ++ D) (L ++ B)
  | [], [], _, _, _, _, h => h
  | x :: A, t :: L, w, D, B, h1, h2 => ⟨h1.1, RLs_app A L (w + 1) D B h1.2 (by
    rw [show w + 1 + A.length = w + (x :: A).length from by rw [List.length_cons]; omega]
    exact h2)⟩
  | [], _ :: _, _, _, _, h, _ => False.elim h
  | _ :: _, [], _, _, _, h, _ => False.elim h
theorem RLs_get : ∀ (C : List INS) (L : List T3) (w i : Nat) (x : INS), RLs R w C L → C[i]? = some x → ∃ t, L[i]? = some t ∧ R (w + i) x t
  | [], [], _, i, x, _, h => by cases h
  | y :: A, t :: L, w, 0, x, h1, h2 => by
    cases h2
    exact ⟨t, rfl, h1.1⟩
  | y :: A, t :: L, w, i + 1, x, h1, h2 => by
    obtain ⟨s, s1, s2⟩ := RLs_get A L (w + 1) i x h1.2 (by rw [List.getElem?_cons_succ] at h2; exact h2)
    exact ⟨s, by rw [List.getElem?_cons_succ]; exact s1, by rw [show w + (i + 1) = w + 1 + i from by omega]; exact s2⟩
  | [], _ :: _, _, _, _, h, _ => False.elim h
  | _ :: _, [], _, _, _, h, _ => False.elim h
/-- what a task writes: C, within b turns, on a stack that is no higher than told -/
def TKx (Q p : Nat) (R : Nat → INS → T3 → Prop) (T : ev_St) (b : Nat) (t : T3) (C : List INS) (dm : Nat) : Prop := ∀ (d w : Nat) (U : ev_St), FWr T U → MV p d w [t] [] U U → d ≤ w + dm → w + C.length ≤ 205 → ∃ n V L, n ≤ b ∧ GOn Q p n U V ∧ MV p d w [] L U V ∧ RLs R w C L
theorem TK_m {b2 dm2 : Nat} (h : TKx Q p R T b t C dm) (hb : b ≤ b2) (hd : dm2 ≤ dm) : TKx Q p R T b2 t C dm2 := fun d w U hf hm h1 h2 => by
  obtain ⟨n, V, L, a1, a2⟩ := h d w U hf hm (by omega) h2
  exact ⟨n, V, L, by omega, a2⟩
theorem do1 (hk : TKx Q p R T b t C dm) (hf : FWr T U) (h : MV p d w (ts ++ [t]) L U V) (hd : d + ts.length ≤ w + L.length + dm) (hw : w + L.length + C.length ≤ 205) : ∃ n V2 L2, n ≤ b ∧ GOn Q p n V V2 ∧ MV p d w ts (L ++ L2) U V2 ∧ RLs R (w + L.length) C L2 := by
  obtain ⟨m1, m2, m3⟩ := MV_one h
  obtain ⟨n, V2, L2, a1, a2, a3, a4⟩ := hk (d + ts.length) (w + L.length) V (FWr_t hf h.2.2.2.2.2) (MV_r1 m1 m2 m3) hd hw
  exact ⟨n, V2, L2, a1, a2, MV_seq h a3 rfl rfl, a4⟩
/-- what the relation of instructions must hold of -/
def RXo (R : Nat → INS → T3 → Prop) : Prop := (∀ (w : Nat) (far l r : Int), l = (w : Int) + 1 → r = (w : Int) + far → R w (ins 3 far) (2, l, r)) ∧ (∀ (w : Nat) (far l r : Int), l = (w : Int) + far → r = (w : Int) + 1 → R w (ins 4 far) (2, l, r)) ∧ (∀ (w : Nat) (far l r : Int), l = (w : Int) + far → R w (ins 2 far) (3, l, r)) ∧ ∀ (w : Nat) (j r : Int), R w (ins 5 j) (4, j, r)
theorem lst_0 {n : Nat} (z : c = -1) : lstC X n c = [] := by
  cases n with
  | zero => rfl
  | succ n => rw [lstC, if_pos z]
theorem lst_s {n u : Nat} : lstC X (n + 1) (u : Int) = u :: lstC X n (X u) := by rw [lstC, if_neg (by omega), Int.toNat_natCast]
theorem cdR_2 {r s : List INS} {rs : List (List INS)} : cdR (r :: s :: rs) = (ins 3 ((r.length : Int) + 2) :: r) ++ ins 2 (((cdR (s :: rs)).length : Int) + 1) :: cdR (s :: rs) := by rw [cdR]
/-- items, one behind another -/
theorem TK11 (hp : p < 12) (hX : mbX N X Mb) (hN : N ≤ 320) (hXT : ∀ s, Mb s → X s = T.1 627 (320 * p + s)) (hk : ∀ s, Mb s → TKx Q p R T b (0, ((320 * p + s : Nat) : Int), 0) (CI s) s) (hdm : ∀ s, Mb s → dm + 1 ≤ s) : ∀ (n b0 u : Nat), N ≤ b0 + n → b0 ≤ u → Mb u → TKx Q p R T (n * (b + 1)) (11, ((320 * p + u : Nat) : Int), 0) (((lstC X n (u : Int)).map CI).flatten) dm := fun n => by
  induction n with
  | zero =>
    intro b0 u h1 h2 h3
    have := (hX u h3).1
    omega
  | succ n ih =>
    intro b0 u h1 h2 h3 d w U hf h hd hw
    obtain ⟨uN, ux⟩ := hX u h3
    have hu := hdm u h3
    rw [lst_s, List.map_cons, List.flatten_cons] at hw ⊢
    rw [List.length_append] at hw
    rw [Nat.succ_mul]
    rcases ux with z | ⟨v, z, z1, z2⟩
    · rw [lst_0 z, List.map_nil, List.flatten_nil, List.append_nil]
      obtain ⟨V1, a1, a2⟩ := m_11a (Q := Q) (ts := []) (L := []) hf h (by (try simp only [List.nil_append, List.length_append, List.length_cons, List.length_nil, List.cons_append]) <;> omega) hp (by omega) (by (try simp only [List.nil_append, List.length_append, List.length_cons, List.length_nil, List.cons_append]) <;> omega) ((hXT u h3).symm.trans z)
      obtain ⟨n1, V2, L2, b1, b2, b3, b4⟩ := do1 (ts := []) (hk u h3) hf a2 (by (try simp only [List.nil_append, List.length_append, List.length_cons, List.length_nil, List.cons_append]) <;> omega) (by (try simp only [List.nil_append, List.length_append, List.length_cons, List.length_nil, List.cons_append]) <;> omega)
      exact ⟨1 + n1, V2, L2, by omega, GO_t a1 b2, b3, b4⟩
    · rw [z] at hw ⊢
      have vN := (hX v z2).1
      obtain ⟨V1, a1, a2⟩ := m_11b (Q := Q) (ts := []) (L := []) hf h (by (try simp only [List.nil_append, List.length_append, List.length_cons, List.length_nil, List.cons_append]) <;> omega) hp (by omega) (by (try simp only [List.nil_append, List.length_append, List.length_cons, List.length_nil, List.cons_append]) <;> omega) ((hXT u h3).symm.trans z) (by omega)
      obtain ⟨n1, V2, L2, b1, b2, b3, b4⟩ := do1 (hk u h3) hf a2 (by (try simp only [List.nil_append, List.length_append, List.length_cons, List.length_nil, List.cons_append]) <;> omega) (by (try simp only [List.nil_append, List.length_append, List.length_cons, List.length_nil, List.cons_append]) <;> omega)
      have l2 := RLs_len _ _ _ b4
      obtain ⟨n2, V3, L3, c1, c2, c3, c4⟩ := do1 (ts := []) (ih (b0 + 1) v (by omega) (by omega) z2) hf b3 (by (try simp only [List.nil_append, List.length_append, List.length_cons, List.length_nil, List.cons_append]) <;> omega) (by (try simp only [List.nil_append, List.length_append, List.length_cons, List.length_nil, List.cons_append]) <;> omega)
      refine ⟨1 + n1 + n2, V3, L2 ++ L3, by omega, GO_t (GO_t a1 b2) c2, c3, RLs_app _ _ _ _ _ b4 ?_⟩
      rw [List.nil_append, l2] at c4
      exact c4
/-- a row -/
theorem TK10 {r : Nat} (hp : p < 12) (hX : mbX N X Mb) (hN : N ≤ 320) (hXT : ∀ s, Mb s → X s = T.1 627 (320 * p + s)) (hk : ∀ s, Mb s → TKx Q p R T b (0, ((320 * p + s : Nat) : Int), 0) (CI s) s) (hr : r < 320) (hc : mbc Mb 0 (T.1 626 (320 * p + r))) (hdm : ∀ s, Mb s → r + 1 ≤ s) : TKx Q p R T (320 * (b + 1) + 1) (10, ((320 * p + r : Nat) : Int), 0) (((lstC X 320 (T.1 626 (320 * p + r))).map CI).flatten) r := fun d w U hf h hd hw => by
  rcases hc with z | ⟨u, z, z1, z2⟩
  · obtain ⟨V1, a1, a2⟩ := m_10a (Q := Q) (ts := []) (L := []) hf h (by (try simp only [List.nil_append, List.length_append, List.length_cons, List.length_nil, List.cons_append]) <;> omega) hp (by omega) (by (try simp only [List.nil_append, List.length_append, List.length_cons, List.length_nil, List.cons_append]) <;> omega) z
    refine ⟨1, V1, [], by omega, a1, a2, ?_⟩
    rw [lst_0 z]
    trivial
  · rw [z] at hw ⊢
    have uN := (hX u z2).1
    obtain ⟨V1, a1, a2⟩ := m_10b (Q := Q) (ts := []) (L := []) hf h (by (try simp only [List.nil_append, List.length_append, List.length_cons, List.length_nil, List.cons_append]) <;> omega) hp (by omega) (by (try simp only [List.nil_append, List.length_append, List.length_cons, List.length_nil, List.cons_append]) <;> omega) z (by omega)
    obtain ⟨n1, V2, L2, b1, b2, b3, b4⟩ := do1 (ts := []) (TK11 hp hX hN hXT hk hdm 320 0 u (by omega) (by omega) z2) hf a2 (by (try simp only [List.nil_append, List.length_append, List.length_cons, List.length_nil, List.cons_append]) <;> omega) (by (try simp only [List.nil_append, List.length_append, List.length_cons, List.length_nil, List.cons_append]) <;> omega)
    exact ⟨1 + n1, V2, L2, by omega, GO_t a1 b2, b3, b4⟩
/-- rows, one behind another -/
theorem TK4 (hR : RXo R) (hp : p < 12) (hX : mbX N X Mb) (hN : N ≤ 320) (hXT : ∀ s, Mb s → X s = T.1 627 (320 * p + s)) (hk : ∀ s, Mb s → TKx Q p R T b (10, ((320 * p + s : Nat) : Int), 0) (CI s) s) (hdm : ∀ s, Mb s → dm ≤ s) (hdm2 : dm ≤ 330) : ∀ (n b0 u : Nat), N ≤ b0 + n → b0 ≤ u → Mb u → TKx Q p R T (n * (b + 4)) (4, ((320 * p + u : Nat) : Int), 0) (cdR ((lstC X n (u : Int)).map CI)) dm := fun n => by
  induction n with
  | zero =>
    intro b0 u h1 h2 h3
    have := (hX u h3).1
    omega
  | succ n ih =>
    intro b0 u h1 h2 h3 d w U hf h hd hw
    obtain ⟨uN, ux⟩ := hX u h3
    have hu := hdm u h3
    rw [lst_s, List.map_cons] at hw ⊢
    rw [Nat.succ_mul]
    rcases ux with z | ⟨v, z, z1, z2⟩
    · rw [lst_0 z, List.map_nil] at hw ⊢
      rw [show cdR [CI u] = CI u from rfl] at hw ⊢
      obtain ⟨V1, a1, a2⟩ := m_4a (Q := Q) (ts := []) (L := []) hf h (by (try simp only [List.nil_append, List.length_append, List.length_cons, List.length_nil, List.cons_append]) <;> omega) hp (by omega) (by (try simp only [List.nil_append, List.length_append, List.length_cons, List.length_nil, List.cons_append]) <;> omega) ((hXT u h3).symm.trans z)
      obtain ⟨n1, V2, L2, b1, b2, b3, b4⟩ := do1 (ts := []) (hk u h3) hf a2 (by (try simp only [List.nil_append, List.length_append, List.length_cons, List.length_nil, List.cons_append]) <;> omega) (by (try simp only [List.nil_append, List.length_append, List.length_cons, List.length_nil, List.cons_append]) <;> omega)
      exact ⟨1 + n1, V2, L2, by omega, GO_t a1 b2, b3, b4⟩
    · rw [z] at hw ⊢
      have vN := (hX v z2).1
      have q := ih (b0 + 1) v (by omega) (by omega) z2
      obtain ⟨rs, e3⟩ : ∃ rs, (lstC X n (v : Int)).map CI = CI v :: rs := by
        cases n with
        | zero => omega
        | succ n => exact ⟨(lstC X n (X v)).map CI, by rw [lst_s, List.map_cons]⟩
      rw [e3] at q hw ⊢
      rw [cdR_2] at hw ⊢
      obtain ⟨Y, hY⟩ : ∃ Y, Y = cdR (CI v :: rs) := ⟨_, rfl⟩
      rw [← hY] at q hw ⊢
      rw [List.length_append, List.length_cons, List.length_cons] at hw
      obtain ⟨V1, a1, a2⟩ := m_4b (Q := Q) (ts := []) (L := []) hf h (by (try simp only [List.nil_append, List.length_append, List.length_cons, List.length_nil, List.cons_append]) <;> omega) hp (by omega) (by (try simp only [List.nil_append, List.length_append, List.length_cons, List.length_nil, List.cons_append]) <;> omega) (by rw [← hXT u h3, z]; omega)
      obtain ⟨n1, V2, L2, b1, b2, b3, b4⟩ := do1 (hk u h3) hf a2 (by (try simp only [List.nil_append, List.length_append, List.length_cons, List.length_nil, List.cons_append]) <;> omega) (by (try simp only [List.nil_append, List.length_append, List.length_cons, List.length_nil, List.cons_append]) <;> omega)
      have l2 := RLs_len _ _ _ b4
      obtain ⟨V3, c1, c2⟩ := m_7 (Q := Q) (ts := []) (A := []) (B := L2) (a := w) hf b3 (by (try simp only [List.nil_append, List.length_append, List.length_cons, List.length_nil, List.cons_append]) <;> omega) hp (by omega) (by (try simp only [List.nil_append, List.length_append, List.length_cons, List.length_nil, List.cons_append]) <;> omega) (by (try simp only [List.nil_append, List.length_append, List.length_cons, List.length_nil, List.cons_append]) <;> omega) ((hXT u h3).symm.trans z) (by omega)
      obtain ⟨n2, V4, L3, d1, d2, d3, d4⟩ := do1 q hf c2 (by (try simp only [List.nil_append, List.length_append, List.length_cons, List.length_nil, List.cons_append]) <;> omega) (by (try simp only [List.nil_append, List.length_append, List.length_cons, List.length_nil, List.cons_append]) <;> omega)
      have l3 := RLs_len _ _ _ d4
      obtain ⟨x, hx⟩ : ∃ x : T3, x = (2, ((w + ([] : List T3).length : Nat) : Int) + 1, ((w + ([] ++ (2, ((w + ([] : List T3).length : Nat) : Int) + 1, (0 : Int)) :: L2 : List T3).length + 1 : Nat) : Int)) := ⟨_, rfl⟩
      have d3' : MV p d w ([] ++ [(9, ((320 * p + u : Nat) : Int), ((w + (L2.length + 1) : Nat) : Int))]) ((x :: L2) ++ (3, 0, 0) :: L3) U V4 := by
        have e : (x :: L2) ++ (3, 0, 0) :: L3 = ([] ++ x :: (L2 ++ [(3, 0, 0)])) ++ L3 := by
          simp only [List.nil_append, List.cons_append, List.append_assoc]
        rw [e, hx]
        exact d3
      obtain ⟨V5, f1, f2⟩ := m_9 (Q := Q) (ts := []) (A := x :: L2) (B := L3) (a := w + (L2.length + 1)) hf d3' (by (try simp only [List.nil_append, List.length_append, List.length_cons, List.length_nil, List.cons_append]) <;> omega) hp (by omega) (by (try simp only [List.nil_append, List.length_append, List.length_cons, List.length_nil, List.cons_append]) <;> omega) (by (try simp only [List.nil_append, List.length_append, List.length_cons, List.length_nil, List.cons_append]) <;> omega)
      refine ⟨1 + n1 + 1 + n2 + 1, V5, _, by omega, GO_t (GO_t (GO_t (GO_t a1 b2) c1) d2) f1, f2, RLs_app _ _ _ _ _ ⟨?_, b4⟩ ⟨?_, ?_⟩⟩
      · rw [hx]
        exact hR.1 w _ _ _ (by (try simp only [List.nil_append, List.length_append, List.length_cons, List.length_nil, List.cons_append]) <;> omega) (by (try simp only [List.nil_append, List.length_append, List.length_cons, List.length_nil, List.cons_append]) <;> omega)
      · exact hR.2.2.1 _ _ _ _ (by
          simp only [List.length_append, List.length_cons]
          omega)
      · simp only [List.nil_append, List.length_append, List.length_cons, List.length_nil] at d4 ⊢
        rw [show w + ((CI u).length + 1) + 1 = w + (L2.length + 1 + 1) from by omega]
        exact d4
/-- one sign or edge -/
theorem TK1a {x : INS} (hp : p < 12) (hg : g < 4160) (hk : T.1 625 g < 7) (hx : ∀ w, R w x ((if T.1 625 g = 0 then 0 else 1), (g : Int), 0)) (hdm2 : dm ≤ 330) : TKx Q p R T 1 (1, (g : Int), 0) [x] dm := fun d w U hf h hd hw => by
  rw [List.length_cons, List.length_nil] at hw
  obtain ⟨V1, a1, a2⟩ := m_1a (Q := Q) (ts := []) (L := []) hf h (by (try simp only [List.nil_append, List.length_append, List.length_cons, List.length_nil, List.cons_append]) <;> omega) hp hg (by (try simp only [List.nil_append, List.length_append, List.length_cons, List.length_nil, List.cons_append]) <;> omega) hk
  exact ⟨1, V1, _, Nat.le_refl _, a1, a2, ⟨hx w, trivial⟩⟩
theorem TK2 {u : Nat} (hp : p < 12) (hg : g < 4160) (hu : u < 320) (z : T.1 626 g = (u : Int)) (hk : TKx Q p R T b (4, ((320 * p + u : Nat) : Int), 0) C dm) (hdm2 : dm ≤ 330) : TKx Q p R T (b + 1) (2, (g : Int), 0) C dm := fun d w U hf h hd hw => by
  obtain ⟨V1, a1, a2⟩ := m_2 (Q := Q) (ts := []) (L := []) hf h (by (try simp only [List.nil_append, List.length_append, List.length_cons, List.length_nil, List.cons_append]) <;> omega) hp hg (by (try simp only [List.nil_append, List.length_append, List.length_cons, List.length_nil, List.cons_append]) <;> omega) z hu
  obtain ⟨n1, V2, L2, b1, b2, b3, b4⟩ := do1 (ts := []) hk hf a2 (by (try simp only [List.nil_append, List.length_append, List.length_cons, List.length_nil, List.cons_append]) <;> omega) (by (try simp only [List.nil_append, List.length_append, List.length_cons, List.length_nil, List.cons_append]) <;> omega)
  exact ⟨1 + n1, V2, L2, by omega, GO_t a1 b2, b3, b4⟩
theorem TK1o (hp : p < 12) (hg : g < 4160) (z : 7 ≤ T.1 625 g ∧ T.1 625 g ≠ 8) (hk : TKx Q p R T b (2, (g : Int), 0) C dm) (hdm2 : dm ≤ 330) : TKx Q p R T (b + 1) (1, (g : Int), 0) C dm := fun d w U hf h hd hw => by
  obtain ⟨V1, a1, a2⟩ := m_1o (Q := Q) (ts := []) (L := []) hf h (by (try simp only [List.nil_append, List.length_append, List.length_cons, List.length_nil, List.cons_append]) <;> omega) hp hg (by (try simp only [List.nil_append, List.length_append, List.length_cons, List.length_nil, List.cons_append]) <;> omega) z
  obtain ⟨n1, V2, L2, b1, b2, b3, b4⟩ := do1 (ts := []) hk hf a2 (by (try simp only [List.nil_append, List.length_append, List.length_cons, List.length_nil, List.cons_append]) <;> omega) (by (try simp only [List.nil_append, List.length_append, List.length_cons, List.length_nil, List.cons_append]) <;> omega)
  exact ⟨1 + n1, V2, L2, by omega, GO_t a1 b2, b3, b4⟩
theorem TK1g {j : Int} (hR : RXo R) (hp : p < 12) (hg : g < 4160) (z : T.1 625 g = 8) (hj : T.1 628 g = j) (hj2 : 0 ≤ j ∧ j ≤ 9) (hk : TKx Q p R T b (2, (g : Int), 0) C dm) (hdm2 : dm ≤ 330) : TKx Q p R T (b + 2) (1, (g : Int), 0) (ins 5 (2 * j) :: C ++ [ins 5 (2 * j + 1)]) dm := fun d w U hf h hd hw => by
  rw [List.length_append, List.length_cons, List.length_cons, List.length_nil] at hw
  obtain ⟨V1, a1, a2⟩ := m_1g (Q := Q) (ts := []) (L := []) hf h (by (try simp only [List.nil_append, List.length_append, List.length_cons, List.length_nil, List.cons_append]) <;> omega) hp hg (by (try simp only [List.nil_append, List.length_append, List.length_cons, List.length_nil, List.cons_append]) <;> omega) z hj hj2
  obtain ⟨n1, V2, L2, b1, b2, b3, b4⟩ := do1 hk hf a2 (by (try simp only [List.nil_append, List.length_append, List.length_cons, List.length_nil, List.cons_append]) <;> omega) (by (try simp only [List.nil_append, List.length_append, List.length_cons, List.length_nil, List.cons_append]) <;> omega)
  have l2 := RLs_len _ _ _ b4
  obtain ⟨V3, c1, c2⟩ := m_8 (Q := Q) (ts := []) hf b3 (by (try simp only [List.nil_append, List.length_append, List.length_cons, List.length_nil, List.cons_append]) <;> omega) hp hg (by (try simp only [List.nil_append, List.length_append, List.length_cons, List.length_nil, List.cons_append]) <;> omega)
  exact ⟨1 + n1 + 1, V3, ((4, 2 * j, 0) :: L2) ++ [(4, 2 * j + 1, 0)], by omega, GO_t (GO_t a1 b2) c1, c2, RLs_app _ _ _ _ _ ⟨hR.2.2.2 _ _ _, b4⟩ ⟨hR.2.2.2 _ _ _, trivial⟩⟩
end PROG18
