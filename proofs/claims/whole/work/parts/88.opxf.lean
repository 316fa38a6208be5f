/-! PROGRAMS: the reference's stack of tasks, and what it writes -/
section PROG15
variable {Q p d w : Nat} {S U V W : ev_St}
abbrev T3 := Int × Int × Int
def rd3 (c1 c2 c3 i : Nat) (V : ev_St) (x : T3) : Prop := V.1 c1 i = x.1 ∧ V.1 c2 i = x.2.1 ∧ V.1 c3 i = x.2.2
def sm3 (c1 c2 c3 i : Nat) (U V : ev_St) : Prop := V.1 c1 i = U.1 c1 i ∧ V.1 c2 i = U.1 c2 i ∧ V.1 c3 i = U.1 c3 i
def FWr (U V : ev_St) : Prop := (∀ x i, ¬ (x = 621 ∧ (i = 54 ∨ i = 59)) → ¬ (662 ≤ x ∧ x ≤ 664) → ¬ (666 ≤ x ∧ x ≤ 668) → V.1 x i = U.1 x i) ∧ V.2 = U.2
theorem FWr_r : FWr S S := ⟨fun _ _ _ _ _ => rfl, rfl⟩
theorem FWr_t (h : FWr S U) (h2 : FWr U V) : FWr S V := ⟨fun x i a b c => (h2.1 x i a b c).trans (h.1 x i a b c), h2.2.trans h.2⟩
theorem FWr_w {x i : Nat} {v : Int} (h : (x = 621 ∧ (i = 54 ∨ i = 59)) ∨ (662 ≤ x ∧ x ≤ 664) ∨ (666 ≤ x ∧ x ≤ 668)) : FWr U (ev_pI U x i v) := ⟨fun y j a b c => by
  rw [sp_pI1, if_neg]
  rintro ⟨rfl, rfl⟩
  rcases h with h | h | h
  · exact a h
  · exact b h
  · exact c h, rfl⟩
/-- from U, whose stack was d high and which had written w rows: ts lie on the stack, L is written -/
def MV (p d w : Nat) (ts L : List T3) (U V : ev_St) : Prop := (V.1 621 59 = ((d + ts.length : Nat) : Int) ∧ V.1 621 54 = ((w + L.length : Nat) : Int)) ∧ (∀ j x, ts[j]? = some x → rd3 666 667 668 (d + j) V x) ∧ (∀ i, i < d → sm3 666 667 668 i U V) ∧ (∀ j x, L[j]? = some x → rd3 662 663 664 (210 * p + w + j) V x) ∧ (∀ i, i < 210 * p + w ∨ 210 * p + w + L.length ≤ i → sm3 662 663 664 i U V) ∧ FWr U V
def psh (d : Nat) (t : T3) (U : ev_St) : ev_St := ev_pI (ev_pI (ev_pI (ev_pI U 666 d t.1) 667 d t.2.1) 668 d t.2.2) 621 59 ((d + 1 : Nat) : Int)
def emt (p w : Nat) (t : T3) (U : ev_St) : ev_St := ev_pI (ev_pI (ev_pI (ev_pI U 662 (210 * p + w) t.1) 663 (210 * p + w) t.2.1) 664 (210 * p + w) t.2.2) 621 54 ((w + 1 : Nat) : Int)
theorem gA {A : List T3} {y x : T3} {j : Nat} (h : (A ++ [y])[j]? = some x) : (j < A.length ∧ A[j]? = some x) ∨ (j = A.length ∧ x = y) := by
  by_cases z : j < A.length
  · rw [List.getElem?_append_left z] at h
    exact Or.inl ⟨z, h⟩
  · rw [List.getElem?_append_right (by omega)] at h
    by_cases e : j - A.length = 0
    · rw [e] at h
      exact Or.inr ⟨by omega, (Option.some.inj h).symm⟩
    · rw [List.getElem?_eq_none (by show 1 ≤ _; omega)] at h
      cases h
theorem gL {A : List T3} {x : T3} {j : Nat} (h : A[j]? = some x) : j < A.length := by
  by_cases z : j < A.length
  · exact z
  · rw [List.getElem?_eq_none (by omega)] at h
    cases h
theorem MV_r (h1 : U.1 621 59 = (d : Int)) (h2 : U.1 621 54 = (w : Int)) : MV p d w [] [] U U := ⟨⟨h1, h2⟩, fun j x h => absurd (gL h) (by show ¬ (j < 0); omega), fun _ _ => ⟨rfl, rfl, rfl⟩, fun j x h => absurd (gL h) (by show ¬ (j < 0); omega), fun _ _ => ⟨rfl, rfl, rfl⟩, FWr_r⟩
theorem MV_r1 {t : T3} (h1 : U.1 621 59 = ((d + 1 : Nat) : Int)) (h2 : U.1 621 54 = (w : Int)) (h3 : rd3 666 667 668 d U t) : MV p d w [t] [] U U := ⟨⟨h1, h2⟩, fun j x h => by
  have := gL h
  have e : j = 0 := by
    have q : ([t] : List T3).length = 1 := rfl
    omega
  subst e
  cases h
  exact h3, fun _ _ => ⟨rfl, rfl, rfl⟩, fun j x h => absurd (gL h) (by show ¬ (j < 0); omega), fun _ _ => ⟨rfl, rfl, rfl⟩, FWr_r⟩
theorem MV_pop {ts L : List T3} {t : T3} (h : MV p d w (ts ++ [t]) L U V) : MV p d w ts L U (ev_pI V 621 59 ((d + ts.length : Nat) : Int)) := by
  obtain ⟨⟨a1, a2⟩, b, c, e, f, g⟩ := h
  refine ⟨⟨rd_eq, (rd_nf (by omega)).trans a2⟩, fun j x hj => ?_, fun i hi => ?_, fun j x hj => ?_, fun i hi => ?_, FWr_t g (FWr_w (Or.inl ⟨rfl, Or.inr rfl⟩))⟩
  · have q := b j x (by rw [List.getElem?_append_left (gL hj)]; exact hj)
    exact ⟨(rd_nk (by omega)).trans q.1, (rd_nk (by omega)).trans q.2.1, (rd_nk (by omega)).trans q.2.2⟩
  · have q := c i hi
    exact ⟨(rd_nk (by omega)).trans q.1, (rd_nk (by omega)).trans q.2.1, (rd_nk (by omega)).trans q.2.2⟩
  · have q := e j x hj
    exact ⟨(rd_nk (by omega)).trans q.1, (rd_nk (by omega)).trans q.2.1, (rd_nk (by omega)).trans q.2.2⟩
  · have q := f i hi
    exact ⟨(rd_nk (by omega)).trans q.1, (rd_nk (by omega)).trans q.2.1, (rd_nk (by omega)).trans q.2.2⟩
theorem psh_o {t : T3} {x i : Nat} (h : ¬ (x = 621 ∧ i = 59)) (h2 : ¬ ((666 ≤ x ∧ x ≤ 668) ∧ i = d)) : (psh d t V).1 x i = V.1 x i := by
  unfold psh
  rw [sp_pI1, if_neg h, sp_pI1, if_neg (by omega), sp_pI1, if_neg (by omega), sp_pI1, if_neg (by omega)]
theorem psh_t {t : T3} : rd3 666 667 668 d (psh d t V) t := by
  unfold psh
  refine ⟨?_, ?_, ?_⟩
  · rw [rd_nk (by omega), rd_nk (by omega), rd_nk (by omega), rd_eq]
  · rw [rd_nk (by omega), rd_nk (by omega), rd_eq]
  · rw [rd_nk (by omega), rd_eq]
theorem psh_F {t : T3} : FWr V (psh d t V) := ⟨fun x i a b c => psh_o (fun z => a ⟨z.1, Or.inr z.2⟩) (fun z => c z.1), rfl⟩
theorem emt_o {t : T3} {x i : Nat} (h : ¬ (x = 621 ∧ i = 54)) (h2 : ¬ ((662 ≤ x ∧ x ≤ 664) ∧ i = 210 * p + w)) : (emt p w t V).1 x i = V.1 x i := by
  unfold emt
  rw [sp_pI1, if_neg h, sp_pI1, if_neg (by omega), sp_pI1, if_neg (by omega), sp_pI1, if_neg (by omega)]
theorem emt_t {t : T3} : rd3 662 663 664 (210 * p + w) (emt p w t V) t := by
  unfold emt
  refine ⟨?_, ?_, ?_⟩
  · rw [rd_nk (by omega), rd_nk (by omega), rd_nk (by omega), rd_eq]
  · rw [rd_nk (by omega), rd_nk (by omega), rd_eq]
  · rw [rd_nk (by omega), rd_eq]
theorem emt_F {t : T3} : FWr V (emt p w t V) := ⟨fun x i a b c => emt_o (fun z => a ⟨z.1, Or.inl z.2⟩) (fun z => b z.1), rfl⟩
theorem MV_psh {ts L : List T3} {t : T3} {e : Nat} (h : MV p d w ts L U V) (he : e = d + ts.length) : MV p d w (ts ++ [t]) L U (psh e t V) := by
  subst he
  obtain ⟨⟨a1, a2⟩, b, c, e, f, g⟩ := h
  refine ⟨⟨?_, (psh_o (by omega) (by omega)).trans a2⟩, fun j x hj => ?_, fun i hi => ?_, fun j x hj => ?_, fun i hi => ?_, FWr_t g psh_F⟩
  · rw [List.length_append]
    exact rd_eq
  · rcases gA hj with ⟨z, y⟩ | ⟨z, y⟩
    · have q := b j x y
      exact ⟨(psh_o (by omega) (by omega)).trans q.1, (psh_o (by omega) (by omega)).trans q.2.1, (psh_o (by omega) (by omega)).trans q.2.2⟩
    · rw [z, y]
      exact psh_t
  · have q := c i hi
    exact ⟨(psh_o (by omega) (by omega)).trans q.1, (psh_o (by omega) (by omega)).trans q.2.1, (psh_o (by omega) (by omega)).trans q.2.2⟩
  · have q := e j x hj
    exact ⟨(psh_o (by omega) (by omega)).trans q.1, (psh_o (by omega) (by omega)).trans q.2.1, (psh_o (by omega) (by omega)).trans q.2.2⟩
  · have q := f i hi
    exact ⟨(psh_o (by omega) (by omega)).trans q.1, (psh_o (by omega) (by omega)).trans q.2.1, (psh_o (by omega) (by omega)).trans q.2.2⟩
theorem MV_emt {ts L : List T3} {t : T3} {e : Nat} (h : MV p d w ts L U V) (he : e = w + L.length) : MV p d w ts (L ++ [t]) U (emt p e t V) := by
  subst he
  obtain ⟨⟨a1, a2⟩, b, c, e, f, g⟩ := h
  refine ⟨⟨(emt_o (by omega) (by omega)).trans a1, ?_⟩, fun j x hj => ?_, fun i hi => ?_, fun j x hj => ?_, fun i hi => ?_, FWr_t g emt_F⟩
  · rw [List.length_append]
    exact rd_eq
  · have q := b j x hj
    exact ⟨(emt_o (by omega) (by omega)).trans q.1, (emt_o (by omega) (by omega)).trans q.2.1, (emt_o (by omega) (by omega)).trans q.2.2⟩
  · have q := c i hi
    exact ⟨(emt_o (by omega) (by omega)).trans q.1, (emt_o (by omega) (by omega)).trans q.2.1, (emt_o (by omega) (by omega)).trans q.2.2⟩
  · rcases gA hj with ⟨z, y⟩ | ⟨z, y⟩
    · have q := e j x y
      exact ⟨(emt_o (by omega) (by omega)).trans q.1, (emt_o (by omega) (by omega)).trans q.2.1, (emt_o (by omega) (by omega)).trans q.2.2⟩
    · rw [z, y, Nat.add_assoc]
      exact emt_t
  · rw [List.length_append, show ([t] : List T3).length = 1 from rfl] at hi
    have q := f i (by omega)
    exact ⟨(emt_o (by omega) (by omega)).trans q.1, (emt_o (by omega) (by omega)).trans q.2.1, (emt_o (by omega) (by omega)).trans q.2.2⟩
theorem MV_seq {ts L L' : List T3} {t : T3} {d' w' : Nat} (h : MV p d w (ts ++ [t]) L U V) (h2 : MV p d' w' [] L' V W) (hd : d' = d + ts.length) (hw : w' = w + L.length) : MV p d w ts (L ++ L') U W := by
  subst hd
  subst hw
  obtain ⟨⟨a1, a2⟩, b, c, e, f, g⟩ := h
  obtain ⟨⟨a1', a2'⟩, b', c', e', f', g'⟩ := h2
  refine ⟨⟨a1', ?_⟩, fun j x hj => ?_, fun i hi => ?_, fun j x hj => ?_, fun i hi => ?_, FWr_t g g'⟩
  · rw [a2', List.length_append, Nat.add_assoc]
  · have q := b j x (by rw [List.getElem?_append_left (gL hj)]; exact hj)
    have r := c' (d + j) (by have := gL hj; omega)
    exact ⟨r.1.trans q.1, r.2.1.trans q.2.1, r.2.2.trans q.2.2⟩
  · have q := c i hi
    have r := c' i (by omega)
    exact ⟨r.1.trans q.1, r.2.1.trans q.2.1, r.2.2.trans q.2.2⟩
  · by_cases z : j < L.length
    · rw [List.getElem?_append_left z] at hj
      have q := e j x hj
      have r := f' (210 * p + w + j) (by omega)
      exact ⟨r.1.trans q.1, r.2.1.trans q.2.1, r.2.2.trans q.2.2⟩
    · rw [List.getElem?_append_right (by omega)] at hj
      have q := e' (j - L.length) x hj
      rw [show 210 * p + (w + L.length) + (j - L.length) = 210 * p + w + j from by omega] at q
      exact q
  · rw [List.length_append] at hi
    have q := f i (by omega)
    have r := f' i (by omega)
    exact ⟨r.1.trans q.1, r.2.1.trans q.2.1, r.2.2.trans q.2.2⟩
theorem MV_one {ts L : List T3} {t : T3} (h : MV p d w (ts ++ [t]) L U V) : V.1 621 59 = ((d + ts.length + 1 : Nat) : Int) ∧ V.1 621 54 = ((w + L.length : Nat) : Int) ∧ rd3 666 667 668 (d + ts.length) V t := by
  obtain ⟨⟨a1, a2⟩, b, _⟩ := h
  refine ⟨?_, a2, b ts.length t (by rw [List.getElem?_append_right (Nat.le_refl _), Nat.sub_self]; rfl)⟩
  rw [a1, List.length_append]
  rfl
theorem gM {A B : List T3} {y z x : T3} {j : Nat} (h : (A ++ y :: B)[j]? = some x) : (j ≠ A.length ∧ (A ++ z :: B)[j]? = some x) ∨ (j = A.length ∧ x = y) := by
  by_cases e : j = A.length
  · subst e
    rw [List.getElem?_append_right (Nat.le_refl _), Nat.sub_self] at h
    exact Or.inr ⟨rfl, (Option.some.inj h).symm⟩
  · refine Or.inl ⟨e, ?_⟩
    by_cases l : j < A.length
    · rw [List.getElem?_append_left l] at h ⊢
      exact h
    · rw [List.getElem?_append_right (by omega)] at h ⊢
      obtain ⟨i, hi⟩ : ∃ i, j - A.length = i + 1 := ⟨j - A.length - 1, by omega⟩
      rw [hi, List.getElem?_cons_succ] at h ⊢
      exact h
theorem MV_lft {ts A B : List T3} {o l r v : Int} {e : Nat} (h : MV p d w ts (A ++ (o, l, r) :: B) U V) (he : e = 210 * p + w + A.length) : MV p d w ts (A ++ (o, v, r) :: B) U (ev_pI V 663 e v) := by
  subst he
  obtain ⟨⟨a1, a2⟩, b, c, e, f, g⟩ := h
  refine ⟨⟨(rd_nk (by omega)).trans a1, ?_⟩, fun j x hj => ?_, fun i hi => ?_, fun j x hj => ?_, fun i hi => ?_, FWr_t g (FWr_w (Or.inr (Or.inl ⟨by omega, by omega⟩)))⟩
  · rw [rd_nk (by omega), a2]
    simp only [List.length_append, List.length_cons]
  · have q := b j x hj
    exact ⟨(rd_nk (by omega)).trans q.1, (rd_nk (by omega)).trans q.2.1, (rd_nk (by omega)).trans q.2.2⟩
  · have q := c i hi
    exact ⟨(rd_nk (by omega)).trans q.1, (rd_nk (by omega)).trans q.2.1, (rd_nk (by omega)).trans q.2.2⟩
  · rcases gM (z := (o, l, r)) hj with ⟨z, y⟩ | ⟨z, y⟩
    · have q := e j x y
      exact ⟨(rd_nk (by omega)).trans q.1, (rd_nf (by omega)).trans q.2.1, (rd_nk (by omega)).trans q.2.2⟩
    · have q := e A.length (o, l, r) (by rw [List.getElem?_append_right (Nat.le_refl _), Nat.sub_self]; rfl)
      rw [z, y]
      exact ⟨(rd_nk (by omega)).trans q.1, rd_eq, (rd_nk (by omega)).trans q.2.2⟩
  · simp only [List.length_append, List.length_cons] at hi f
    have q := f i (by omega)
    exact ⟨(rd_nk (by omega)).trans q.1, (rd_nf (by omega)).trans q.2.1, (rd_nk (by omega)).trans q.2.2⟩
theorem MV_rgt {ts A B : List T3} {o l r v : Int} {e : Nat} (h : MV p d w ts (A ++ (o, l, r) :: B) U V) (he : e = 210 * p + w + A.length) : MV p d w ts (A ++ (o, l, v) :: B) U (ev_pI V 664 e v) := by
  subst he
  obtain ⟨⟨a1, a2⟩, b, c, e, f, g⟩ := h
  refine ⟨⟨(rd_nk (by omega)).trans a1, ?_⟩, fun j x hj => ?_, fun i hi => ?_, fun j x hj => ?_, fun i hi => ?_, FWr_t g (FWr_w (Or.inr (Or.inl ⟨by omega, by omega⟩)))⟩
  · rw [rd_nk (by omega), a2]
    simp only [List.length_append, List.length_cons]
  · have q := b j x hj
    exact ⟨(rd_nk (by omega)).trans q.1, (rd_nk (by omega)).trans q.2.1, (rd_nk (by omega)).trans q.2.2⟩
  · have q := c i hi
    exact ⟨(rd_nk (by omega)).trans q.1, (rd_nk (by omega)).trans q.2.1, (rd_nk (by omega)).trans q.2.2⟩
  · rcases gM (z := (o, l, r)) hj with ⟨z, y⟩ | ⟨z, y⟩
    · have q := e j x y
      exact ⟨(rd_nk (by omega)).trans q.1, (rd_nk (by omega)).trans q.2.1, (rd_nf (by omega)).trans q.2.2⟩
    · have q := e A.length (o, l, r) (by rw [List.getElem?_append_right (Nat.le_refl _), Nat.sub_self]; rfl)
      rw [z, y]
      exact ⟨(rd_nk (by omega)).trans q.1, (rd_nk (by omega)).trans q.2.1, rd_eq⟩
  · simp only [List.length_append, List.length_cons] at hi f
    have q := f i (by omega)
    exact ⟨(rd_nk (by omega)).trans q.1, (rd_nk (by omega)).trans q.2.1, (rd_nf (by omega)).trans q.2.2⟩
theorem al66x : ev_aln 662 = 2520 ∧ ev_aln 663 = 2520 ∧ ev_aln 664 = 2520 ∧ ev_aln 665 = 12 ∧ ev_aln 666 = 1200 ∧ ev_aln 667 = 1200 ∧ ev_aln 668 = 1200 := by decide +kernel
theorem sp_310 {a b c : Int} (h : V.1 621 59 = (d : Int)) (hd : d < 1200) : jm_310 Q a b c V = some ((), psh d (a, b, c) V) := by
  obtain ⟨_, _, _, _, l6, l7, l8⟩ := al66x
  unfold jm_310 psh
  rw [sp_b, h, sp_if (by rw [l6]; omega), sp_b, sp_b, rd_nk (by omega), h, sp_if (by rw [l7]; omega), sp_b, sp_b, rd_nk (by omega), rd_nk (by omega), h, sp_if (by rw [l8]; omega), sp_b, sp_b, rd_nk (by omega), rd_nk (by omega), rd_nk (by omega), h, sp_ck (by omega), sp_b, Int.toNat_natCast]
  rfl
theorem sp_309 {a b c : Int} (h : V.1 621 54 = (w : Int)) (hw : 210 * p + w < 2520) : jm_309 Q (p : Int) a b c V = some ((w : Int), emt p w (a, b, c) V) := by
  obtain ⟨l2, l3, l4, _⟩ := al66x
  unfold jm_309 emt
  rw [sp_ck (by omega), sp_b, h, sp_ck (by omega), sp_if (by rw [l2]; omega), sp_b, sp_if (by rw [l3]; omega), sp_b, sp_if (by rw [l4]; omega), sp_b, sp_b, rd_nk (by omega), rd_nk (by omega), rd_nk (by omega), h, sp_ck (by omega), sp_b, sp_b, rd_eq, sp_ck (by omega), show (210 * (p : Int) + (w : Int)).toNat = 210 * p + w from by omega, show (w : Int) + 1 - 1 = (w : Int) from by omega]
  rfl
end PROG15
