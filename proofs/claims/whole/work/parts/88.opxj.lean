/-! PROGRAMS: repeats, and all nodes -/
section PROG19
variable {Q k p d w g a dm b N M m : Nat} {c : Int} {φ ψ own up : Nat → Nat} {S T U V W : ev_St} {ts L A B : List T3} {R : Nat → INS → T3 → Prop} {C D : List INS} {CA CI : Nat → List INS} {t : T3}
abbrev frk (T : ev_St) (g : Nat) : Int := if T.1 630 g = 1 then 4 else 3
/-- a fork whose other way was told at the end -/
theorem fk_R {v far : Int} {x : T3} (hR : RXo R) (hx : x = if T.1 630 g = 1 then (2, v, (w : Int) + 1) else (2, (w : Int) + 1, v)) (hv : v = (w : Int) + far) : R w (ins (frk T g) far) x := by
  subst hx
  unfold frk
  by_cases z : T.1 630 g = 1
  · rw [if_pos z, if_pos z]
    exact hR.2.1 w far _ _ hv rfl
  · rw [if_neg z, if_neg z]
    exact hR.1 w far _ _ rfl hv
theorem TK3f {lo : Int} {H : Nat} (hR : RXo R) (hp : p < 12) (hg : g < 4160) (hlo : T.1 631 g = lo) (hhi : T.1 632 g = (H : Int)) (hH : H ≤ 20) (hle : lo ≤ (H : Int)) (hk1 : TKx Q p R T b (1, (g : Int), 0) C (dm + 1)) (hdm2 : dm ≤ 320) : ∀ r i : Nat, i + r = H → TKx Q p R T ((r + 1) * (b + 3)) (3, (g : Int), (i : Int)) (moreL (frk T g) lo (H : Int) H C r i) dm := fun r => by
  induction r with
  | zero =>
    intro i hi d w U hf h hd hw
    obtain ⟨V1, a1, a2⟩ := m_3b (Q := Q) (ts := []) (L := []) hf h (by (try simp only [List.nil_append, List.length_append, List.length_cons, List.length_nil, List.cons_append]) <;> omega) hp hg (by (try simp only [List.nil_append, List.length_append, List.length_cons, List.length_nil, List.cons_append]) <;> omega) (by omega) (by omega) (by omega)
    exact ⟨1, V1, [], by omega, a1, a2, trivial⟩
  | succ r ih =>
    intro i hi d w U hf h hd hw
    rw [Nat.succ_mul]
    have em : moreL (frk T g) lo (H : Int) H C (r + 1) i = (if (i : Int) < lo then [] else [ins (frk T g) (if (H : Int) = -1 then (C.length : Int) + 2 else ((H : Int) - (i : Int)) * ((C.length : Int) + 1))]) ++ C ++ moreL (frk T g) lo (H : Int) H C r (i + 1) := rfl
    rw [em] at hw ⊢
    by_cases z : (i : Int) < lo
    · rw [if_pos z, List.nil_append] at hw ⊢
      rw [List.length_append] at hw
      obtain ⟨V1, a1, a2⟩ := m_3a (Q := Q) (ts := []) (L := []) hf h (by (try simp only [List.nil_append, List.length_append, List.length_cons, List.length_nil, List.cons_append]) <;> omega) hp hg (by (try simp only [List.nil_append, List.length_append, List.length_cons, List.length_nil, List.cons_append]) <;> omega) (by omega) (by omega)
      obtain ⟨n1, V2, L2, b1, b2, b3, b4⟩ := do1 hk1 hf a2 (by (try simp only [List.nil_append, List.length_append, List.length_cons, List.length_nil, List.cons_append]) <;> omega) (by (try simp only [List.nil_append, List.length_append, List.length_cons, List.length_nil, List.cons_append]) <;> omega)
      have l2 := RLs_len _ _ _ b4
      obtain ⟨n2, V3, L3, c1, c2, c3, c4⟩ := do1 (ts := []) (ih (i + 1) (by omega)) hf b3 (by (try simp only [List.nil_append, List.length_append, List.length_cons, List.length_nil, List.cons_append]) <;> omega) (by (try simp only [List.nil_append, List.length_append, List.length_cons, List.length_nil, List.cons_append]) <;> omega)
      refine ⟨1 + n1 + n2, V3, L2 ++ L3, by omega, GO_t (GO_t a1 b2) c2, c3, RLs_app _ _ _ _ _ b4 ?_⟩
      rw [List.nil_append, l2] at c4
      exact c4
    · rw [if_neg z, if_neg (by omega)] at hw ⊢
      have ml : (moreL (frk T g) lo (H : Int) H C r (i + 1)).length = r * (C.length + 1) := moreL_n r (i + 1) (by omega)
      obtain ⟨y, hy⟩ : ∃ y, y = r * (C.length + 1) := ⟨_, rfl⟩
      have ef : ((H : Int) - (i : Int)) * ((C.length : Int) + 1) = ((y + (C.length + 1) : Nat) : Int) := by
        rw [show (H : Int) - (i : Int) = ((r + 1 : Nat) : Int) from by omega, hy, ← Nat.succ_mul, Int.natCast_mul]
        rfl
      rw [ef] at hw ⊢
      rw [← hy] at ml
      rw [List.length_append, List.length_append, List.length_cons, List.length_nil, ml] at hw
      obtain ⟨V1, a1, a2⟩ := m_3d (Q := Q) (ts := []) (L := []) hf h (by (try simp only [List.nil_append, List.length_append, List.length_cons, List.length_nil, List.cons_append]) <;> omega) hp hg (by (try simp only [List.nil_append, List.length_append, List.length_cons, List.length_nil, List.cons_append]) <;> omega) (by omega) (by omega) (by omega) (by omega)
      obtain ⟨n1, V2, L2, b1, b2, b3, b4⟩ := do1 hk1 hf a2 (by (try simp only [List.nil_append, List.length_append, List.length_cons, List.length_nil, List.cons_append]) <;> omega) (by (try simp only [List.nil_append, List.length_append, List.length_cons, List.length_nil, List.cons_append]) <;> omega)
      have l2 := RLs_len _ _ _ b4
      obtain ⟨n2, V3, L3, c1, c2, c3, c4⟩ := do1 (ih (i + 1) (by omega)) hf b3 (by (try simp only [List.nil_append, List.length_append, List.length_cons, List.length_nil, List.cons_append]) <;> omega) (by (try simp only [List.nil_append, List.length_append, List.length_cons, List.length_nil, List.cons_append]) <;> omega)
      have l3 := RLs_len _ _ _ c4
      rw [ml] at l3
      have c3' : MV p d w ([] ++ [(6, (g : Int), (w : Int))]) ([] ++ (2, (w : Int) + 1, (w : Int) + 1) :: (L2 ++ L3)) U V3 := c3
      obtain ⟨V4, f1, f2⟩ := m_6 (Q := Q) (ts := []) (A := []) (a := w) hf c3' (by (try simp only [List.nil_append, List.length_append, List.length_cons, List.length_nil, List.cons_append]) <;> omega) hp hg (by (try simp only [List.nil_append, List.length_append, List.length_cons, List.length_nil, List.cons_append]) <;> omega) rfl
      refine ⟨1 + n1 + n2 + 1, V4, _, by omega, GO_t (GO_t (GO_t a1 b2) c2) f1, f2, ?_⟩
      show RLs R w (ins (frk T g) ((y + (C.length + 1) : Nat) : Int) :: (C ++ moreL (frk T g) lo (H : Int) H C r (i + 1))) (_ :: (L2 ++ L3))
      refine ⟨fk_R hR rfl (by (try simp only [List.nil_append, List.length_append, List.length_cons, List.length_nil, List.cons_append]) <;> omega), RLs_app _ _ _ _ _ b4 ?_⟩
      rw [show w + ([] ++ [((2 : Int), ((w + ([] : List T3).length : Nat) : Int) + 1, ((w + ([] : List T3).length : Nat) : Int) + 1)] ++ L2 : List T3).length = w + 1 + C.length from (by (try simp only [List.nil_append, List.length_append, List.length_cons, List.length_nil, List.cons_append]) <;> omega)] at c4
      exact c4
theorem TK3i {cp l : Nat} (hR : RXo R) (hp : p < 12) (hg : g < 4160) (hlo : T.1 631 g = (l : Int)) (hhi : T.1 632 g = -1) (hl : l ≤ 20) (hk1 : TKx Q p R T b (1, (g : Int), 0) C (dm + 1)) (hdm2 : dm ≤ 320) : ∀ r i : Nat, i + r = l → TKx Q p R T ((r + 1) * (b + 3)) (3, (g : Int), (i : Int)) (moreL (frk T g) (l : Int) (-1) cp C (r + 1) i ++ tailL (-1) C) dm := fun r => by
  induction r with
  | zero =>
    intro i hi d w U hf h hd hw
    have e : moreL (frk T g) (l : Int) (-1) cp C (0 + 1) i ++ tailL (-1) C = ins (frk T g) ((C.length : Int) + 2) :: (C ++ [ins 2 (-((C.length : Int) + 1))]) := by
      show ((if (i : Int) < (l : Int) then [] else [ins (frk T g) (if (-1 : Int) = -1 then (C.length : Int) + 2 else ((cp : Int) - (i : Int)) * ((C.length : Int) + 1))]) ++ C ++ []) ++ (if (-1 : Int) = -1 then [ins 2 (-((C.length : Int) + 1))] else []) = _
      rw [if_neg (show ¬ ((i : Int) < (l : Int)) by omega), if_pos rfl, if_pos rfl, List.append_nil]
      rfl
    rw [e] at hw ⊢
    rw [List.length_cons, List.length_append, List.length_cons, List.length_nil] at hw
    obtain ⟨V1, a1, a2⟩ := m_3c (Q := Q) (ts := []) (L := []) hf h (by (try simp only [List.nil_append, List.length_append, List.length_cons, List.length_nil, List.cons_append]) <;> omega) hp hg (by (try simp only [List.nil_append, List.length_append, List.length_cons, List.length_nil, List.cons_append]) <;> omega) (by omega) hhi
    obtain ⟨n1, V2, L2, b1, b2, b3, b4⟩ := do1 hk1 hf a2 (by (try simp only [List.nil_append, List.length_append, List.length_cons, List.length_nil, List.cons_append]) <;> omega) (by (try simp only [List.nil_append, List.length_append, List.length_cons, List.length_nil, List.cons_append]) <;> omega)
    have l2 := RLs_len _ _ _ b4
    have b3' : MV p d w ([] ++ [(5, (g : Int), (w : Int))]) ([] ++ (2, (w : Int) + 1, (w : Int) + 1) :: L2) U V2 := b3
    obtain ⟨V4, f1, f2⟩ := m_5 (Q := Q) (ts := []) (A := []) (a := w) hf b3' (by (try simp only [List.nil_append, List.length_append, List.length_cons, List.length_nil, List.cons_append]) <;> omega) hp hg (by (try simp only [List.nil_append, List.length_append, List.length_cons, List.length_nil, List.cons_append]) <;> omega) rfl
    refine ⟨1 + n1 + 1, V4, _, by omega, GO_t (GO_t a1 b2) f1, f2, ?_⟩
    refine ⟨fk_R hR rfl (by (try simp only [List.nil_append, List.length_append, List.length_cons, List.length_nil, List.cons_append]) <;> omega), RLs_app _ _ _ _ _ b4 ⟨hR.2.2.1 _ _ _ _ (by omega), trivial⟩⟩
  | succ r ih =>
    intro i hi d w U hf h hd hw
    rw [Nat.succ_mul]
    have em : moreL (frk T g) (l : Int) (-1) cp C (r + 1 + 1) i ++ tailL (-1) C = C ++ (moreL (frk T g) (l : Int) (-1) cp C (r + 1) (i + 1) ++ tailL (-1) C) := by
      show ((if (i : Int) < (l : Int) then [] else [ins (frk T g) (if (-1 : Int) = -1 then (C.length : Int) + 2 else ((cp : Int) - (i : Int)) * ((C.length : Int) + 1))]) ++ C ++ moreL (frk T g) (l : Int) (-1) cp C (r + 1) (i + 1)) ++ tailL (-1) C = _
      rw [if_pos (show ((i : Int) < (l : Int)) by omega), List.nil_append, List.append_assoc]
    rw [em] at hw ⊢
    rw [List.length_append, List.length_append] at hw
    obtain ⟨V1, a1, a2⟩ := m_3a (Q := Q) (ts := []) (L := []) hf h (by (try simp only [List.nil_append, List.length_append, List.length_cons, List.length_nil, List.cons_append]) <;> omega) hp hg (by (try simp only [List.nil_append, List.length_append, List.length_cons, List.length_nil, List.cons_append]) <;> omega) (by omega) (by omega)
    obtain ⟨n1, V2, L2, b1, b2, b3, b4⟩ := do1 hk1 hf a2 (by (try simp only [List.nil_append, List.length_append, List.length_cons, List.length_nil, List.cons_append]) <;> omega) (by (try simp only [List.nil_append, List.length_append, List.length_cons, List.length_nil, List.cons_append]) <;> omega)
    have l2 := RLs_len _ _ _ b4
    obtain ⟨n2, V3, L3, c1, c2, c3, c4⟩ := do1 (ts := []) (ih (i + 1) (by omega)) hf b3 (by (try simp only [List.nil_append, List.length_append, List.length_cons, List.length_nil, List.cons_append]) <;> omega) (by (try simp only [List.nil_append, List.length_append, List.length_cons, List.length_nil, List.cons_append]) <;> omega)
    refine ⟨1 + n1 + n2, V3, L2 ++ L3, by omega, GO_t (GO_t a1 b2) c2, c3, RLs_app _ _ _ _ _ b4 ?_⟩
    rw [List.nil_append, l2] at c4
    exact c4
theorem TK3 {lo hi : Int} (hR : RXo R) (hp : p < 12) (hg : g < 4160) (hlo : T.1 631 g = lo) (hhi : T.1 632 g = hi) (hb : (0 ≤ lo ∧ lo ≤ 20) ∧ (-1 ≤ hi ∧ hi ≤ 20) ∧ (hi = -1 ∨ lo ≤ hi)) (hk1 : TKx Q p R T b (1, (g : Int), 0) C (dm + 1)) (hdm2 : dm ≤ 320) : TKx Q p R T (22 * (b + 3)) (3, (g : Int), 0) (repL (frk T g) lo hi C) dm := by
  obtain ⟨⟨b1, b2⟩, ⟨b3, b4⟩, b5⟩ := hb
  obtain ⟨l, hl⟩ : ∃ l : Nat, lo = (l : Int) := ⟨lo.toNat, by omega⟩
  subst hl
  by_cases z : hi = -1
  · subst z
    have ec : cpsN (l : Int) (-1) = l + 1 := by
      unfold cpsN
      rw [if_pos rfl]
      omega
    unfold repL
    rw [ec, if_neg (by omega)]
    exact TK_m (TK3i (cp := l + 1) hR hp hg hlo hhi (by omega) hk1 hdm2 l 0 (by omega)) (Nat.mul_le_mul_right _ (by omega)) (Nat.le_refl _)
  · obtain ⟨H, hH⟩ : ∃ H : Nat, hi = (H : Int) := ⟨hi.toNat, by omega⟩
    subst hH
    have ec : cpsN (l : Int) (H : Int) = H := by
      unfold cpsN
      rw [if_neg z]
      omega
    have q := TK3f (lo := (l : Int)) (H := H) hR hp hg hlo hhi (by omega) (by omega) hk1 hdm2 H 0 (by omega)
    have e : repL (frk T g) (l : Int) (H : Int) C = moreL (frk T g) (l : Int) (H : Int) H C H 0 := by
      unfold repL tailL
      rw [ec, if_neg z, List.append_nil]
      by_cases y : H = 0
      · rw [if_pos y, y]
        rfl
      · rw [if_neg y]
    rw [e]
    exact TK_m q (Nat.mul_le_mul_right _ (by omega)) (Nat.le_refl _)
theorem TK0a (hp : p < 12) (hg : g < 4160) (z : T.1 630 g = -1) (hk : TKx Q p R T b (1, (g : Int), 0) C dm) (hdm2 : dm ≤ 330) : TKx Q p R T (b + 1) (0, (g : Int), 0) C dm := fun d w U hf h hd hw => by
  obtain ⟨V1, a1, a2⟩ := m_0a (Q := Q) (ts := []) (L := []) hf h (by (try simp only [List.nil_append, List.length_append, List.length_cons, List.length_nil, List.cons_append]) <;> omega) hp hg (by (try simp only [List.nil_append, List.length_append, List.length_cons, List.length_nil, List.cons_append]) <;> omega) z
  obtain ⟨n1, V2, L2, b1, b2, b3, b4⟩ := do1 (ts := []) hk hf a2 (by (try simp only [List.nil_append, List.length_append, List.length_cons, List.length_nil, List.cons_append]) <;> omega) (by (try simp only [List.nil_append, List.length_append, List.length_cons, List.length_nil, List.cons_append]) <;> omega)
  exact ⟨1 + n1, V2, L2, by omega, GO_t a1 b2, b3, b4⟩
theorem TK0b (hp : p < 12) (hg : g < 4160) (z : T.1 630 g ≠ -1) (hk : TKx Q p R T b (3, (g : Int), 0) C dm) (hdm2 : dm ≤ 330) : TKx Q p R T (b + 1) (0, (g : Int), 0) C dm := fun d w U hf h hd hw => by
  obtain ⟨V1, a1, a2⟩ := m_0b (Q := Q) (ts := []) (L := []) hf h (by (try simp only [List.nil_append, List.length_append, List.length_cons, List.length_nil, List.cons_append]) <;> omega) hp hg (by (try simp only [List.nil_append, List.length_append, List.length_cons, List.length_nil, List.cons_append]) <;> omega) z
  obtain ⟨n1, V2, L2, b1, b2, b3, b4⟩ := do1 (ts := []) hk hf a2 (by (try simp only [List.nil_append, List.length_append, List.length_cons, List.length_nil, List.cons_append]) <;> omega) (by (try simp only [List.nil_append, List.length_append, List.length_cons, List.length_nil, List.cons_append]) <;> omega)
  exact ⟨1 + n1, V2, L2, by omega, GO_t a1 b2, b3, b4⟩
def bT : Nat → Nat
  | 0 => 0
  | n + 1 => 22 * (320 * (320 * (bT n + 1) + 5) + 3 + 3) + 1
theorem bT_s {n : Nat} (h : b ≤ 22 * (320 * (320 * (bT n + 1) + 5) + 3 + 3) + 1) : b ≤ bT (n + 1) := by
  rw [bT]
  exact h
/-- the rows of a part -/
theorem TKrows (hF : FINX k N M φ ψ own up S (sft p T)) (hC : CDQ k N φ S (sft p T) CA CI) (hR : RXo R) (hp : p < 12) (hm : m < N) (hk : tK (sft p T) m = 8 ∨ tK (sft p T) m = 9) (ih : ∀ t, m < t → t < N → tK (sft p T) t ≠ 18 → TKx Q p R T b (0, ((320 * p + t : Nat) : Int), 0) (CI t) t) : TKx Q p R T (320 * (320 * (b + 1) + 5) + 1) (2, ((320 * p + m : Nat) : Int), 0) (cdR ((lstC (tX (sft p T)) 320 (tC (sft p T) m)).map CI)) (m + 1) := by
  have h := TREE_of hF
  have hN : N ≤ 320 := hF.2.1.2.2.2
  have hB := TB_of hF
  have hXT : ∀ s, tX (sft p T) s = T.1 627 (320 * p + s) := fun s => sft_1 (by decide) (by decide)
  have eC : ∀ s, tC (sft p T) s = T.1 626 (320 * p + s) := fun s => sft_1 (by decide) (by decide)
  have eK : ∀ s, tK (sft p T) s = T.1 625 (320 * p + s) := fun s => sft_1 (by decide) (by decide)
  have rows : ∀ r, Kid N up (sft p T) m r → TKx Q p R T (320 * (b + 1) + 1) (10, ((320 * p + r : Nat) : Int), 0) (CI r) r := fun r hr => by
    have r18 : tK (sft p T) r = 18 := hr.2.2.2.mpr (by omega)
    have lt := UP_lt hF hr.1 hr.2.1 hr.2.2.1
    obtain ⟨_, _, c3, _, _, c6, _, _⟩ := hC r hr.1
    have rr : tR (sft p T) r = -1 := by
      have e := ((h.2.2.1 r hr.1 hr.2.1).2 r18).2
      rcases h.2.2.2.2.2.2.2.2 r hr.1 with ⟨y, _⟩ | ⟨⟨_, y⟩, _⟩ | ⟨⟨_, y⟩, _⟩
      · exact y
      · exact absurd e y
      · exact absurd e y
    have q := TK10 (R := R) (T := T) (CI := CI) (b := b) (r := r) (Q := Q) hp (Kid_X h (m := r)) hN (fun s _ => hXT s) (fun s hs => ih s (by have := UP_lt hF hs.1 hs.2.1 hs.2.2.1; omega) hs.1 (fun y => absurd r18 (hs.2.2.2.mp y))) (by have := hr.1; omega) (by rw [← eC]; exact Kid_C h hr.1) (fun s hs => UP_lt hF hs.1 hs.2.1 hs.2.2.1)
    rw [c6 rr, c3 r18, eC]
    exact q
  rcases Kid_C h hm with z | ⟨u, z, z1, z2⟩
  · exact absurd ((eC m).symm.trans z) ((hB.2.2 m hm).2 (by rw [← eK]; omega))
  · have uN := z2.1
    have q := TK4 (R := R) (T := T) (CI := CI) (b := 320 * (b + 1) + 1) (dm := m + 1) (Q := Q) hR hp (Kid_X h (m := m)) hN (fun s _ => hXT s) rows (fun s hs => UP_lt hF hs.1 hs.2.1 hs.2.2.1) (by omega) 320 0 u (by omega) (by omega) z2
    rw [z]
    exact TK2 hp (by omega) (by omega) ((eC m).symm.trans z) q (by omega)
/-- each node writes its code -/
theorem TKcode (hF : FINX k N M φ ψ own up S (sft p T)) (hok : ∀ m, m < N → okR (320 * p + m) T) (hC : CDQ k N φ S (sft p T) CA CI) (hR : RXo R) (hp : p < 12) (hleaf : ∀ m, m < N → tK (sft p T) m < 7 → ∃ x, CA m = [x] ∧ ∀ w, R w x ((if T.1 625 (320 * p + m) = 0 then 0 else 1), ((320 * p + m : Nat) : Int), 0)) : ∀ n m, m < N → N ≤ m + n → tK (sft p T) m ≠ 18 → TKx Q p R T (bT n) (0, ((320 * p + m : Nat) : Int), 0) (CI m) m := fun n => by
  have h := TREE_of hF
  have hN : N ≤ 320 := hF.2.1.2.2.2
  have eK : ∀ s, tK (sft p T) s = T.1 625 (320 * p + s) := fun s => sft_1 (by decide) (by decide)
  have eR : ∀ s, tR (sft p T) s = T.1 630 (320 * p + s) := fun s => sft_1 (by decide) (by decide)
  have eL : ∀ s, tL (sft p T) s = T.1 631 (320 * p + s) := fun s => sft_1 (by decide) (by decide)
  have eH : ∀ s, tH (sft p T) s = T.1 632 (320 * p + s) := fun s => sft_1 (by decide) (by decide)
  induction n with
  | zero => intro m h1 h2; omega
  | succ n ih =>
    intro m hm hn h18
    obtain ⟨o1, o2, o3⟩ := hok m hm
    obtain ⟨c1, c2, c3, c4, c5, c6, c7, c8⟩ := hC m hm
    have hg : 320 * p + m < 4160 := by omega
    have atom : TKx Q p R T (320 * (320 * (bT n + 1) + 5) + 3) (1, ((320 * p + m : Nat) : Int), 0) (CA m) (m + 1) := by
      by_cases k7 : tK (sft p T) m < 7
      · obtain ⟨x, x1, x2⟩ := hleaf m hm k7
        rw [x1]
        exact TK_m (TK1a hp hg (by rw [← eK]; exact k7) x2 (by omega)) (by omega) (Nat.le_refl _)
      · have k89 : tK (sft p T) m = 8 ∨ tK (sft p T) m = 9 := by
          rw [← eK] at o1
          omega
        have rw2 := TKrows (Q := Q) (b := bT n) hF hC hR hp hm k89 (fun t t1 t2 t3 => ih t t2 (by omega) t3)
        rcases k89 with y | y
        · have nv := (hF.1.2.2.2.1.1 m hm).1.2.2.2.1 (Or.inl y)
          have e28 : (sft p T).1 628 (3840 + m) = T.1 628 (320 * p + m) := sft_1 (by decide) (by decide)
          rw [e28] at nv c4
          rw [c4 y]
          exact TK1g hR hp hg (by rw [← eK]; exact y) rfl (by omega) rw2 (by omega)
        · rw [c5 y]
          exact TK_m (TK1o hp hg (by rw [← eK]; omega) rw2 (by omega)) (by omega) (Nat.le_refl _)
    by_cases r1 : tR (sft p T) m = -1
    · rw [c6 r1]
      exact TK_m (TK0a hp hg (by rw [← eR]; exact r1) (TK_m atom (Nat.le_refl _) (Nat.le_succ m)) (by omega)) (bT_s (by omega)) (Nat.le_refl _)
    · have bv := (hF.1.2.2.2.1.1 m hm).2.1 r1
      have e31 : (sft p T).1 631 (3840 + m) = T.1 631 (320 * p + m) := sft_1 (by decide) (by decide)
      have e32 : (sft p T).1 632 (3840 + m) = T.1 632 (320 * p + m) := sft_1 (by decide) (by decide)
      rw [e31, e32] at bv
      have q := TK3 (Q := Q) (R := R) (T := T) (g := 320 * p + m) hR hp hg rfl rfl bv atom (by omega)
      have eI : CI m = repL (frk T (320 * p + m)) (T.1 631 (320 * p + m)) (T.1 632 (320 * p + m)) (CA m) := by
        unfold frk
        rw [eR] at r1 c7 c8
        rw [eL, eH] at c7 c8
        rcases h.2.2.2.2.2.2.2.2 m hm with ⟨y, _⟩ | ⟨⟨y | y, _⟩, _⟩ | ⟨⟨y, _⟩, _⟩
        · exact absurd ((eR m).symm.trans y) r1
        · have y2 := (eR m).symm.trans y
          rw [c7 y2, if_neg (by omega)]
        · have y2 := (eR m).symm.trans y
          rw [c8 y2, if_pos y2]
        · exact absurd ((eR m).symm.trans y) o2
      rw [eI]
      exact TK_m (TK0b hp hg (by rw [← eR]; exact r1) q (by omega)) (bT_s (by omega)) (Nat.le_refl _)
end PROG19
