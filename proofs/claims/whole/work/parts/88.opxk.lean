/-! PROGRAMS: the reference's program is the class's -/
section PROG20
variable {Q k p d w g a dm b N M m : Nat} {c : Int} {φ ψ own up : Nat → Nat} {S T U V W : ev_St} {CA CI : Nat → List INS}
/-- instruction by instruction: x of the class, at place w, and t of the reference -/
def RX (k N p : Nat) (φ : Nat → Nat) (S T : ev_St) (w : Nat) (x : INS) (t : T3) : Prop := (x.1 = 0 ∧ t.1 = 0 ∧ ∃ m, m < N ∧ T.1 625 (320 * p + m) = 0 ∧ x.2.2 = (S.2.1 (k + 8) (φ m), S.2.1 (k + 9) (φ m)) ∧ t.2.1 = ((320 * p + m : Nat) : Int)) ∨ (x.1 = 1 ∧ t.1 = 1 ∧ ∃ m, m < N ∧ (1 ≤ T.1 625 (320 * p + m) ∧ T.1 625 (320 * p + m) ≤ 6) ∧ x.2.1 = S.1 (k + 1) (φ m) ∧ t.2.1 = ((320 * p + m : Nat) : Int)) ∨ (x.1 = 2 ∧ t.1 = 3 ∧ t.2.1 = (w : Int) + x.2.1) ∨ (x.1 = 3 ∧ t.1 = 2 ∧ t.2.1 = (w : Int) + 1 ∧ t.2.2 = (w : Int) + x.2.1) ∨ (x.1 = 4 ∧ t.1 = 2 ∧ t.2.1 = (w : Int) + x.2.1 ∧ t.2.2 = (w : Int) + 1) ∨ (x.1 = 5 ∧ t.1 = 4 ∧ t.2.1 = x.2.1) ∨ (x.1 = 6 ∧ t.1 = 5)
theorem RX_o : RXo (RX k N p φ S T) := ⟨fun w far l r h1 h2 => Or.inr (Or.inr (Or.inr (Or.inl ⟨rfl, rfl, h1, h2⟩))), fun w far l r h1 h2 => Or.inr (Or.inr (Or.inr (Or.inr (Or.inl ⟨rfl, rfl, h1, h2⟩)))), fun w far l r h1 => Or.inr (Or.inr (Or.inl ⟨rfl, rfl, h1⟩)), fun w j r => Or.inr (Or.inr (Or.inr (Or.inr (Or.inr (Or.inl ⟨rfl, rfl, rfl⟩)))))⟩
/-- what the reference's writing may change -/
def FRr (p : Nat) (T V : ev_St) : Prop := (∀ x i, ¬ (x = 621 ∧ (i = 54 ∨ i = 59)) → ¬ ((662 ≤ x ∧ x ≤ 664) ∧ 210 * p ≤ i ∧ i < 210 * p + 210) → ¬ (666 ≤ x ∧ x ≤ 668) → ¬ (x = 665 ∧ i = p) → V.1 x i = T.1 x i) ∧ V.2 = T.2
theorem prog_R (hF : FINX k N M φ ψ own up S (sft p T)) (hok : ∀ m, m < N → okR (320 * p + m) T) (hC : CDQ k N φ S (sft p T) CA CI) (hp : p < 12) (hl : (CA 0).length ≤ 200) (hQ : 320 * (320 * (bT 320 + 1) + 5) + 10 ≤ Q) : ∃ V L, jm_313 Q (p : Int) T = some ((), V) ∧ FRr p T V ∧ (∀ j x, L[j]? = some x → rd3 662 663 664 (210 * p + j) V x) ∧ RLs (RX k N p φ S T) 0 (CA 0 ++ [ins 6 0]) L ∧ V.1 665 p = ((CA 0).length : Int) ∧ ∀ x g, 662 ≤ x → x ≤ 664 → (CA 0).length < g → V.1 x (210 * p + g) = T.1 x (210 * p + g) := by
  have h := TREE_of hF
  have hN : N ≤ 320 := hF.2.1.2.2.2
  have hN0 : 0 < N := hF.1.1.2.2.1
  have eK : ∀ s, tK (sft p T) s = T.1 625 (320 * p + s) := fun s => sft_1 (by decide) (by decide)
  have eN : ∀ s, (sft p T).1 629 (3840 + s) = T.1 629 (320 * p + s) := fun s => sft_1 (by decide) (by decide)
  have hleaf : ∀ m, m < N → tK (sft p T) m < 7 → ∃ x, CA m = [x] ∧ ∀ w, RX k N p φ S T w x ((if T.1 625 (320 * p + m) = 0 then 0 else 1), ((320 * p + m : Nat) : Int), 0) := fun m hm k7 => by
    obtain ⟨c1, c2, _⟩ := hC m hm
    obtain ⟨kr, _⟩ := FINX_K hF hm
    by_cases z : tK (sft p T) m = 0
    · refine ⟨_, c1 z, fun w => Or.inl ⟨rfl, ?_, m, hm, by rw [← eK]; exact z, rfl, rfl⟩⟩
      rw [if_pos (by rw [← eK]; exact z)]
    · refine ⟨_, c2 (by omega), fun w => Or.inr (Or.inl ⟨rfl, ?_, m, hm, by rw [← eK]; omega, rfl, rfl⟩)⟩
      rw [if_neg (by rw [← eK]; exact z)]
  have k9 : tK (sft p T) 0 = 9 := by
    obtain ⟨_, y | y⟩ := FINX_K hF hN0
    · exact y.2.1
    · exact absurd rfl y.1
  obtain ⟨B, hB1, hB2⟩ : ∃ B, (∀ t, 0 < t → t < N → tK (sft p T) t ≠ 18 → TKx Q p (RX k N p φ S T) T B (0, ((320 * p + t : Nat) : Int), 0) (CI t) t) ∧ 320 * (320 * (B + 1) + 5) + 10 ≤ Q := ⟨bT 320, fun t t1 t2 t3 => TKcode hF hok hC RX_o hp hleaf 320 t t2 (Nat.le_trans hN (Nat.le_add_left 320 t)) t3, hQ⟩
  clear hQ
  have hrows := TKrows (Q := Q) (b := B) hF hC RX_o hp hN0 (Or.inr k9) hB1
  obtain ⟨_, _, _, _, c5, _⟩ := hC 0 hN0
  rw [← c5 k9] at hrows
  obtain ⟨l2, l3, l4, l5, l6, l7, l8⟩ := al66x
  obtain ⟨U, hU⟩ : ∃ U, U = psh 0 (2, ((320 * p + 0 : Nat) : Int), 0) (ev_pI (ev_pI T 621 54 0) 621 59 0) := ⟨_, rfl⟩
  have fU : FWr T U := by
    rw [hU]
    exact FWr_t (FWr_t (FWr_w (Or.inl ⟨rfl, Or.inl rfl⟩)) (FWr_w (Or.inl ⟨rfl, Or.inr rfl⟩))) psh_F
  have mU : MV p 0 0 [(2, ((320 * p + 0 : Nat) : Int), 0)] [] U U := by
    refine MV_r1 ?_ ?_ ?_
    · rw [hU, psh_s]
    · rw [hU, psh_o (by omega) (by omega), rd_nf (by omega), rd_eq]
      rfl
    · rw [hU]
      exact psh_t
  obtain ⟨n, V, L, a1, a2, a3, a4⟩ := hrows 0 0 U fU mU (by omega) (by omega)
  have lL := RLs_len _ _ _ a4
  obtain ⟨⟨v1, v2⟩, _, v3, v4, v5, v6⟩ := a3
  have e59 : V.1 621 59 = 0 := v1
  have e54 : V.1 621 54 = (((CA 0).length : Nat) : Int) := by
    rw [v2, lL, Nat.zero_add]
  have run : jm_313 Q (p : Int) T = some ((), ev_pI (emt p (CA 0).length (5, 0, 0) V) 665 p ((CA 0).length : Int)) := by
    unfold jm_313
    rw [sp_ck (by omega), sp_b, sp_b, sp_310 (d := 0) (show (ev_pI (ev_pI T 621 54 0) 621 59 0).1 621 59 = ((0 : Nat) : Int) from rd_eq) (by decide), sp_bd, show (320 * (p : Int)) = ((320 * p + 0 : Nat) : Int) from by omega, ← hU, show ((320 * p + 0 : Nat) : Int) = 320 * (p : Int) from by omega]
    obtain ⟨q, hq⟩ : ∃ q, Q = (q + 1) + n := ⟨Q - n - 1, by omega⟩
    have s := a2 (q + 1)
    rw [← hq] at s
    rw [s]
    show jb_313_23 Q _ _ _ V = _
    unfold jb_313_23
    rw [sp_b, e59, if_pos (Int.le_refl 0), sp_309 e54 (by omega), sp_bd, sp_if (by rw [l5]; omega), sp_b, Int.toNat_natCast]
  refine ⟨_, L ++ [(5, 0, 0)], run, ⟨fun x i n1 n2 n3 n4 => ?_, ?_⟩, fun j x hj => ?_, RLs_app _ _ _ _ _ a4 ⟨Or.inr (Or.inr (Or.inr (Or.inr (Or.inr (Or.inr ⟨rfl, rfl⟩))))), trivial⟩, rd_eq, fun x g x1 x2 hg => ?_⟩
  · rw [sp_pI1, if_neg n4]
    by_cases y : (662 ≤ x ∧ x ≤ 664)
    · have yi : i < 210 * p ∨ 210 * p + 210 ≤ i := by omega
      rw [emt_o (fun z => n1 ⟨z.1, Or.inl z.2⟩) (by omega)]
      obtain ⟨s1, s2, s3⟩ := v5 i (by omega)
      have e : V.1 x i = U.1 x i := by
        rcases (show x = 662 ∨ x = 663 ∨ x = 664 from by omega) with y | y | y
        · rw [y]; exact s1
        · rw [y]; exact s2
        · rw [y]; exact s3
      rw [e, hU, psh_o (by omega) (by omega), rd_nk (by omega), rd_nk (by omega)]
    · rw [emt_o (fun z => n1 ⟨z.1, Or.inl z.2⟩) (fun z => y z.1), v6.1 x i n1 y n3, fU.1 x i n1 y n3]
  · exact v6.2.trans fU.2
  · rcases gA hj with ⟨y, z⟩ | ⟨y, z⟩
    · have q := v4 j x z
      have ne : ¬ ((210 * p + j : Nat) = 210 * p + (CA 0).length) := by omega
      rw [Nat.add_zero] at q
      exact ⟨(rd_nk (by omega)).trans ((emt_o (by omega) (fun z => ne z.2)).trans q.1), (rd_nk (by omega)).trans ((emt_o (by omega) (fun z => ne z.2)).trans q.2.1), (rd_nk (by omega)).trans ((emt_o (by omega) (fun z => ne z.2)).trans q.2.2)⟩
    · rw [y, z, lL]
      have q := emt_t (p := p) (w := (CA 0).length) (t := (5, 0, 0)) (V := V)
      exact ⟨(rd_nk (by omega)).trans q.1, (rd_nk (by omega)).trans q.2.1, (rd_nk (by omega)).trans q.2.2⟩
  · obtain ⟨s1, s2, s3⟩ := v5 (210 * p + g) (Or.inr (by omega))
    have e : V.1 x (210 * p + g) = U.1 x (210 * p + g) := by
      rcases (show x = 662 ∨ x = 663 ∨ x = 664 from by omega) with y | y | y
      · rw [y]; exact s1
      · rw [y]; exact s2
      · rw [y]; exact s3
    rw [rd_nk (by omega), emt_o (by omega) (by omega), e, hU, psh_o (by omega) (by omega), rd_nk (by omega), rd_nk (by omega)]
end PROG20
