/-! STREAMS: from where the reference's programs come to their end -/
section ORG
variable {Q p i n m : Nat} {S U V W : ev_St} {G G2 : Nat → Prop} {x2 x11 l : Int} {JJ K30 K42 : Int → ev_St → Option (Unit × ev_St)}
def en_S (x2 x19 x30 x32 : Int) (K184 : Int → ev_St → Option (Unit × ev_St)) (s26 : ev_St) : Option (Unit × ev_St) := ev_jn (fun  (s83 : ev_St) => K184 1 s83) fun K179 => if x30 = 5 then (K179  s26) else (ev_jn (fun  (s93 : ev_St) => ev_jn (fun  (s102 : ev_St) => ev_jn (fun  (s110 : ev_St) => ev_jn (fun  (s117 : ev_St) => K184 0 s117) fun K183 => if x30 ≠ 2 then (K183  s110) else (ev_ck (x2 + x19) fun x119 => ev_if ((0 : Int) ≤ x119 ∧ x119 < (ev_aln 664 : Int)) (ev_b (s110.1 664 (Int.toNat x119)) fun x120 => ev_if ((0 : Int) ≤ x120 ∧ x120 < (ev_aln 673 : Int)) (ev_b (s110.1 673 (Int.toNat x120)) fun x121 => if x121 = 0 then (K183  s110) else (K179  s110))))) fun K156 => if x30 ≤ 1 then (K156  s102) else (if 4 ≤ x30 then (K156  s102) else (ev_if ((0 : Int) ≤ x32 ∧ x32 < (ev_aln 673 : Int)) (ev_b (s102.1 673 (Int.toNat x32)) fun x125 => if x125 ≠ 0 then (K179  s102) else (K156  s102))))) fun K134 => if x30 ≠ 4 then (K134  s93) else (ev_ck (x19 + 1) fun x128 => ev_if ((0 : Int) ≤ x128 ∧ x128 < (ev_aln 673 : Int)) (ev_b (s93.1 673 (Int.toNat x128)) fun x129 => if x129 ≠ 0 then (K179  s93) else (K134  s93)))) fun K116 => if x30 ≠ 0 then (K116  s26) else (ev_if ((0 : Int) ≤ x32 ∧ x32 < (ev_aln 633 : Int)) (ev_b (s26.2.1 633 (Int.toNat x32)) fun y132 => ev_b (ev_lcmp y132 ((Int64.ofNat ((0 : Fin 2) : Nat)))) fun x133 => ev_jn (fun  (s142 : ev_St) => ev_ck (x19 + 1) fun x143 => ev_if ((0 : Int) ≤ x143 ∧ x143 < (ev_aln 673 : Int)) (ev_b (s142.1 673 (Int.toNat x143)) fun x144 => if x144 ≠ 0 then (K179  s142) else (K116  s142))) fun K104 => if x133 ≠ 0 then (K104  s26) else (ev_if ((0 : Int) ≤ x32 ∧ x32 < (ev_aln 634 : Int)) (ev_b (s26.2.1 634 (Int.toNat x32)) fun y147 => ev_b (ev_lcmp y147 ((Int64.ofNat ((0 : Fin 2) : Nat)))) fun x148 => if x148 = 0 then (K116  s26) else (K104  s26))))))
def en_J (a0 x19 : Int) (K42 : Int → ev_St → Option (Unit × ev_St)) (x33 : Int) (s40 : ev_St) : Option (Unit × ev_St) := ev_if ((0 : Int) ≤ x19 ∧ x19 < (ev_aln 673 : Int)) (ev_b (s40.1 673 (Int.toNat x19)) fun x41 => ev_jn (fun (x44 : Int) (x43 : Int) (r42 : Nat) (s51 : ev_St) => ev_if (ev_bl x44) (ev_if ((0 : Int) ≤ x43 ∧ x43 < (ev_aln r42 : Int)) (ev_b (ev_pI s51 r42 (Int.toNat x43) x44) fun s52 => ev_ck (x19 + (-1)) fun x54 => K42 x54 s52))) fun K223 => ev_jn (fun (x56 : Int) (r55 : Nat) (s63 : ev_St) => K223 1 x56 r55 s63) fun K218 => if x41 ≠ 0 then (K218 x19 673 s40) else (ev_if ((0 : Int) ≤ a0 ∧ a0 < (ev_aln 665 : Int)) (ev_b (s40.1 665 (Int.toNat a0)) fun x65 => ev_jn (fun (x67 : Int) (r66 : Nat) (s74 : ev_St) => K223 0 x67 r66 s74) fun K222 => if x65 < x19 then (K222 x19 673 s40) else (if x33 = 0 then (K222 x19 673 s40) else (K218 x19 673 s40)))))
theorem jb316 {a0 x19 : Int} : jb_316_42 Q a0 x2 x11 K30 K42 x19 U = if x19 < 0 then (ev_ck (x11 + 1) fun x28 => K30 x28 U) else (ev_ck (x2 + x19) fun x29 => ev_if ((0 : Int) ≤ x29 ∧ x29 < (ev_aln 662 : Int)) (ev_b (U.1 662 (Int.toNat x29)) fun x30 => ev_ck (x2 + x19) fun x31 => ev_if ((0 : Int) ≤ x31 ∧ x31 < (ev_aln 663 : Int)) (ev_b (U.1 663 (Int.toNat x31)) fun x32 => en_S x2 x19 x30 x32 (en_J a0 x19 K42) U))) := rfl
def enQ (G : Nat → Prop) (p i : Nat) (U : ev_St) : Prop := U.1 662 (210 * p + i) = 5 ∨ (U.1 662 (210 * p + i) = 0 ∧ (U.2.1 633 (U.1 663 (210 * p + i)).toNat ≠ 0 ∨ U.2.1 634 (U.1 663 (210 * p + i)).toNat ≠ 0) ∧ G (i + 1)) ∨ (U.1 662 (210 * p + i) = 4 ∧ G (i + 1)) ∨ ((U.1 662 (210 * p + i) = 2 ∨ U.1 662 (210 * p + i) = 3) ∧ G (U.1 663 (210 * p + i)).toNat) ∨ (U.1 662 (210 * p + i) = 2 ∧ G (U.1 664 (210 * p + i)).toNat)
def enB (p i : Nat) (U : ev_St) : Prop := (U.1 662 (210 * p + i) = 0 → 0 ≤ U.1 663 (210 * p + i) ∧ U.1 663 (210 * p + i) < 4160) ∧ (U.1 662 (210 * p + i) = 2 ∨ U.1 662 (210 * p + i) = 3 → 0 ≤ U.1 663 (210 * p + i) ∧ U.1 663 (210 * p + i) < 210) ∧ (U.1 662 (210 * p + i) = 2 → 0 ≤ U.1 664 (210 * p + i) ∧ U.1 664 (210 * p + i) < 210)
abbrev enN (U : ev_St) (j : Nat) : Prop := U.1 673 j ≠ 0
theorem al_en : ev_aln 662 = 2520 ∧ ev_aln 663 = 2520 ∧ ev_aln 664 = 2520 ∧ ev_aln 665 = 12 ∧ ev_aln 673 = 212 ∧ ev_aln 633 = 4160 ∧ ev_aln 634 = 4160 := by decide +kernel
theorem enQ_m (h : ∀ j, G j → G2 j) (z : enQ G p i U) : enQ G2 p i U := by
  rcases z with a | ⟨a, b, c⟩ | ⟨a, c⟩ | ⟨a, c⟩ | ⟨a, c⟩
  · exact Or.inl a
  · exact Or.inr (Or.inl ⟨a, b, h _ c⟩)
  · exact Or.inr (Or.inr (Or.inl ⟨a, h _ c⟩))
  · exact Or.inr (Or.inr (Or.inr (Or.inl ⟨a, h _ c⟩)))
  · exact Or.inr (Or.inr (Or.inr (Or.inr ⟨a, h _ c⟩)))
theorem enQ_c (h : ∀ c, c = 662 ∨ c = 663 ∨ c = 664 → V.1 c (210 * p + i) = U.1 c (210 * p + i)) (h2 : V.2.1 = U.2.1) : enQ G p i V ↔ enQ G p i U := by
  unfold enQ
  rw [h 662 (by decide), h 663 (by decide), h 664 (by decide), h2]
theorem en_S_ok (hi : i < 210) (hp : p < 12) (hb : enB p i U) : ∃ v : Int, ((v = 1 ∧ enQ (enN U) p i U) ∨ (v = 0 ∧ ¬ enQ (enN U) p i U)) ∧ ∀ JJ, en_S (210 * (p : Int)) (i : Int) (U.1 662 (210 * p + i)) (U.1 663 (210 * p + i)) JJ U = JJ v U := by
  obtain ⟨l2, l3, l4, l5, l73, l33, l34⟩ := al_en
  have e1 : (210 * (p : Int) + (i : Int)).toNat = 210 * p + i := by omega
  have e2 : ((i : Int) + 1).toNat = i + 1 := by omega
  have c1 : -2147483648 ≤ (i : Int) + 1 ∧ (i : Int) + 1 ≤ 2147483647 := by omega
  have b5 : (0 : Int) ≤ (i : Int) + 1 ∧ (i : Int) + 1 < (ev_aln 673 : Int) := by rw [l73]; omega
  unfold enB at hb
  unfold enQ enN
  obtain ⟨l, hl⟩ : ∃ l, l = U.1 663 (210 * p + i) := ⟨_, rfl⟩
  obtain ⟨a, ha⟩ : ∃ a, a = U.1 662 (210 * p + i) := ⟨_, rfl⟩
  rw [← hl, ← ha] at hb ⊢
  by_cases a5 : a = 5
  · exact ⟨1, Or.inl ⟨rfl, Or.inl a5⟩, fun JJ => by
      unfold en_S
      rw [sp_jn, if_pos a5]⟩
  by_cases a0 : a = 0
  · have b3 : (0 : Int) ≤ l ∧ l < (ev_aln 633 : Int) := by rw [l33]; exact hb.1 a0
    have b4 : (0 : Int) ≤ l ∧ l < (ev_aln 634 : Int) := by rw [l34]; exact hb.1 a0
    have n4 : a ≠ 4 := by omega
    have n2 : a ≠ 2 := by omega
    have n0 : ¬ (a ≠ 0) := fun z => z a0
    have n1 : a ≤ 1 := by omega
    by_cases c : (U.2.1 633 l.toNat ≠ 0 ∨ U.2.1 634 l.toNat ≠ 0) ∧ U.1 673 (i + 1) ≠ 0
    · refine ⟨1, Or.inl ⟨rfl, Or.inr (Or.inl ⟨a0, c.1, c.2⟩)⟩, fun JJ => ?_⟩
      unfold en_S
      simp only [sp_jn, sp_b, if_neg a5, if_neg n0, sp_if b3, sp_if b4, sp_ck c1, sp_if b5, e2, if_pos n4, if_pos n2, if_pos n1, ne_eq, lcmp_0]
      rw [if_pos c.2]
      by_cases w : U.2.1 633 l.toNat = 0
      · rw [if_neg (fun z => z w), if_neg (c.1.resolve_left (fun z => z w))]
      · rw [if_pos w]
    · refine ⟨0, Or.inr ⟨rfl, ?_⟩, fun JJ => ?_⟩
      · rintro (y | ⟨_, y⟩ | ⟨y, _⟩ | ⟨y, _⟩ | ⟨y, _⟩)
        · exact a5 y
        · exact c y
        · omega
        · omega
        · omega
      · unfold en_S
        simp only [sp_jn, sp_b, if_neg a5, if_neg n0, sp_if b3, sp_if b4, sp_ck c1, sp_if b5, e2, if_pos n4, if_pos n2, if_pos n1, ne_eq, lcmp_0]
        by_cases w3 : U.1 673 (i + 1) = 0
        · have w3' : ¬ ¬ U.1 673 (i + 1) = 0 := fun z => z w3
          simp only [if_neg w3']
          (repeat' split) <;> rfl
        · have w1 : U.2.1 633 l.toNat = 0 := Classical.byContradiction fun z => c ⟨Or.inl z, w3⟩
          have w2 : U.2.1 634 l.toNat = 0 := Classical.byContradiction fun z => c ⟨Or.inr z, w3⟩
          rw [if_neg (fun z => z w1), if_pos w2]
  by_cases a4 : a = 4
  · have n4 : ¬ (a ≠ 4) := fun z => z a4
    have n2 : a ≠ 2 := by omega
    have n0 : a ≠ 0 := a0
    have n1 : ¬ a ≤ 1 := by omega
    have n44 : 4 ≤ a := by omega
    by_cases c : U.1 673 (i + 1) ≠ 0
    · refine ⟨1, Or.inl ⟨rfl, Or.inr (Or.inr (Or.inl ⟨a4, c⟩))⟩, fun JJ => ?_⟩
      unfold en_S
      simp only [sp_jn, sp_b, if_neg a5, if_pos n0, sp_ck c1, sp_if b5, e2, if_neg n4, if_pos c]
    · refine ⟨0, Or.inr ⟨rfl, ?_⟩, fun JJ => ?_⟩
      · rintro (y | ⟨y, _⟩ | ⟨_, y⟩ | ⟨y, _⟩ | ⟨y, _⟩)
        · exact a5 y
        · exact a0 y
        · exact c y
        · omega
        · omega
      · unfold en_S
        simp only [sp_jn, sp_b, if_neg a5, if_pos n0, sp_ck c1, sp_if b5, e2, if_neg n4, if_neg c, if_neg n1, if_pos n44, if_pos n2]
  have n4 : a ≠ 4 := a4
  have n0 : a ≠ 0 := a0
  by_cases a2 : a = 2
  · have n1 : ¬ a ≤ 1 := by omega
    have n44 : ¬ 4 ≤ a := by omega
    have n2 : ¬ (a ≠ 2) := fun z => z a2
    have b3 : (0 : Int) ≤ l ∧ l < (ev_aln 673 : Int) := by rw [l73]; have := hb.2.1 (Or.inl a2); omega
    have b6 : (0 : Int) ≤ U.1 664 (210 * p + i) ∧ U.1 664 (210 * p + i) < (ev_aln 673 : Int) := by rw [l73]; have := hb.2.2 a2; omega
    have c2 : -2147483648 ≤ 210 * (p : Int) + (i : Int) ∧ 210 * (p : Int) + (i : Int) ≤ 2147483647 := by omega
    have b7 : (0 : Int) ≤ 210 * (p : Int) + (i : Int) ∧ 210 * (p : Int) + (i : Int) < (ev_aln 664 : Int) := by rw [l4]; omega
    by_cases c : U.1 673 l.toNat ≠ 0
    · refine ⟨1, Or.inl ⟨rfl, Or.inr (Or.inr (Or.inr (Or.inl ⟨Or.inl a2, c⟩)))⟩, fun JJ => ?_⟩
      unfold en_S
      simp only [sp_jn, sp_b, if_neg a5, if_pos n0, if_pos n4, if_neg n1, if_neg n44, sp_if b3, if_pos c]
    · by_cases c' : U.1 673 (U.1 664 (210 * p + i)).toNat = 0
      · refine ⟨0, Or.inr ⟨rfl, ?_⟩, fun JJ => ?_⟩
        · rintro (y | ⟨y, _⟩ | ⟨y, _⟩ | ⟨_, y⟩ | ⟨_, y⟩)
          · exact a5 y
          · exact a0 y
          · exact a4 y
          · exact c y
          · exact y c'
        · unfold en_S
          simp only [sp_jn, sp_b, if_neg a5, if_pos n0, if_pos n4, if_neg n1, if_neg n44, sp_if b3, if_neg c, if_neg n2, sp_ck c2, sp_if b7, e1, sp_if b6, if_pos c']
      · refine ⟨1, Or.inl ⟨rfl, Or.inr (Or.inr (Or.inr (Or.inr ⟨a2, c'⟩)))⟩, fun JJ => ?_⟩
        unfold en_S
        simp only [sp_jn, sp_b, if_neg a5, if_pos n0, if_pos n4, if_neg n1, if_neg n44, sp_if b3, if_neg c, if_neg n2, sp_ck c2, sp_if b7, e1, sp_if b6, if_neg c']
  have n2 : a ≠ 2 := a2
  by_cases a3 : a = 3
  · have n1 : ¬ a ≤ 1 := by omega
    have n44 : ¬ 4 ≤ a := by omega
    have b3 : (0 : Int) ≤ l ∧ l < (ev_aln 673 : Int) := by rw [l73]; have := hb.2.1 (Or.inr a3); omega
    by_cases c : U.1 673 l.toNat ≠ 0
    · refine ⟨1, Or.inl ⟨rfl, Or.inr (Or.inr (Or.inr (Or.inl ⟨Or.inr a3, c⟩)))⟩, fun JJ => ?_⟩
      unfold en_S
      simp only [sp_jn, sp_b, if_neg a5, if_pos n0, if_pos n4, if_neg n1, if_neg n44, sp_if b3, if_pos c]
    · refine ⟨0, Or.inr ⟨rfl, ?_⟩, fun JJ => ?_⟩
      · rintro (y | ⟨y, _⟩ | ⟨y, _⟩ | ⟨_, y⟩ | ⟨y, _⟩)
        · exact a5 y
        · exact a0 y
        · exact a4 y
        · exact c y
        · exact a2 y
      · unfold en_S
        simp only [sp_jn, sp_b, if_neg a5, if_pos n0, if_pos n4, if_neg n1, if_neg n44, sp_if b3, if_neg c, if_pos n2]
  · refine ⟨0, Or.inr ⟨rfl, ?_⟩, fun JJ => ?_⟩
    · rintro (y | ⟨y, _⟩ | ⟨y, _⟩ | ⟨y, _⟩ | ⟨y, _⟩)
      · exact a5 y
      · exact a0 y
      · exact a4 y
      · exact y.elim a2 a3
      · exact a2 y
    · unfold en_S
      by_cases n1 : a ≤ 1
      · simp only [sp_jn, sp_b, if_neg a5, if_pos n0, if_pos n4, if_pos n1, if_pos n2]
      · have n44 : 4 ≤ a := by omega
        simp only [sp_jn, sp_b, if_neg a5, if_pos n0, if_pos n4, if_neg n1, if_pos n44, if_pos n2]
/-- a place of a sweep -/
theorem en_turn (hi : i < 210) (hp : p < 12) (hb : enB p i U) : ∃ v : Int, ((v = 1 ∧ (enN U i ∨ ((i : Int) ≤ U.1 665 p ∧ enQ (enN U) p i U))) ∨ (v = 0 ∧ ¬ (enN U i ∨ ((i : Int) ≤ U.1 665 p ∧ enQ (enN U) p i U)))) ∧ ∀ K42 : Int → ev_St → Option (Unit × ev_St), jb_316_42 Q (p : Int) (210 * (p : Int)) x11 K30 K42 (i : Int) U = K42 ((i : Int) - 1) (ev_pI U 673 i v) := by
  obtain ⟨l2, l3, l4, l5, l73, l33, l34⟩ := al_en
  have e1 : (210 * (p : Int) + (i : Int)).toNat = 210 * p + i := by omega
  obtain ⟨v, hv, hS⟩ := en_S_ok hi hp hb
  have head : ∀ K42 : Int → ev_St → Option (Unit × ev_St), jb_316_42 Q (p : Int) (210 * (p : Int)) x11 K30 K42 (i : Int) U = en_J (p : Int) (i : Int) K42 v U := fun K42 => by
    rw [jb316, if_neg (by omega), sp_ck (by omega), sp_if (by rw [l2]; omega), sp_b, sp_ck (by omega), sp_if (by rw [l3]; omega), sp_b, e1, hS]
  have body : ∀ (K42 : Int → ev_St → Option (Unit × ev_St)) (v : Int), en_J (p : Int) (i : Int) K42 v U = if enN U i then K42 ((i : Int) - 1) (ev_pI U 673 i 1) else if U.1 665 p < (i : Int) then K42 ((i : Int) - 1) (ev_pI U 673 i 0) else if v = 0 then K42 ((i : Int) - 1) (ev_pI U 673 i 0) else K42 ((i : Int) - 1) (ev_pI U 673 i 1) := fun K42 v => by
    have b3 : (0 : Int) ≤ (i : Int) ∧ (i : Int) < (ev_aln 673 : Int) := by rw [l73]; omega
    have b4 : (0 : Int) ≤ (p : Int) ∧ (p : Int) < (ev_aln 665 : Int) := by rw [l5]; omega
    have c1 : -2147483648 ≤ (i : Int) + (-1) ∧ (i : Int) + (-1) ≤ 2147483647 := by omega
    have t0 : ev_bl 0 := Or.inl rfl
    have t1 : ev_bl 1 := Or.inr rfl
    unfold en_J enN
    simp only [sp_jn, sp_b, sp_if b3, sp_if b4, sp_ck c1, sp_if t0, sp_if t1, Int.toNat_natCast]
    rw [show (i : Int) + (-1) = (i : Int) - 1 from by omega]
  by_cases a : enN U i
  · refine ⟨1, Or.inl ⟨rfl, Or.inl a⟩, fun K42 => ?_⟩
    rw [head, body, if_pos a]
  · by_cases b : U.1 665 p < (i : Int)
    · refine ⟨0, Or.inr ⟨rfl, fun z => ?_⟩, fun K42 => ?_⟩
      · rcases z with y | y
        · exact a y
        · omega
      · rw [head, body, if_neg a, if_pos b]
    · rcases hv with ⟨hv, hc⟩ | ⟨hv, hc⟩
      · refine ⟨1, Or.inl ⟨rfl, Or.inr ⟨by omega, hc⟩⟩, fun K42 => ?_⟩
        rw [head, body, if_neg a, if_neg b, if_neg (by omega)]
      · refine ⟨0, Or.inr ⟨rfl, fun z => ?_⟩, fun K42 => ?_⟩
        · rcases z with y | y
          · exact a y
          · exact hc y.2
        · rw [head, body, if_neg a, if_neg b, if_pos hv]
end ORG
