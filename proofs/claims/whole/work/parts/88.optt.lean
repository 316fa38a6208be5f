/-! THE READER: tokens that are leaves -/
section RTOK
variable {Q k n m w d N M D lv : Nat} {φ ψ own inn G R ws y : Nat → Nat} {P q : Nat → Int} {S T S0 T0 S2 T2 T1 : ev_St}
def Kt (T : ev_St) (m : Nat) : Int := T.1 625 (3840 + m)
def Xt (T : ev_St) (m : Nat) : Int := T.1 627 (3840 + m)
/-- all of it -/
def RZ (N D : Nat) (T : ev_St) : Prop := N ≠ 0 ∧ T.1 625 3840 = 9 ∧ (∀ i, i ≤ D → 0 ≤ T.1 649 i ∧ T.1 649 i ≤ 7) ∧ RV N T
def RIa (k lv : Nat) (ws : Nat → Nat) (S T : ev_St) : Prop := ∃ N M D φ ψ own inn G R P q y, RIb k lv ws N M D φ ψ own inn G R P q S T ∧ GH lv N D y G P (Kt T) (Xt T) (T.1 645) (T.1 650) ∧ RZ N D T ∧ UPe k N M D φ ψ own G R P S T
/-- nothing but the spot is another one in what the texts are told by -/
def TKp (lv : Nat) (p : Int) (S T S' T' : ev_St) : Prop := T'.1 645 lv = p ∧ (∀ i, i ≠ lv → T'.1 645 i = T.1 645 i) ∧ (∀ x g, KTt x g → T'.1 x g = T.1 x g) ∧ (∀ x g, KTs x g → S'.1 x g = S.1 x g) ∧ (∀ x g, (x = 15 ∨ (x = 3 ∧ g = 7)) → S'.2.2.1 x g = S.2.2.1 x g) ∧ T.1 621 27 ≤ T'.1 621 27 ∧ LOW T T'
/-- what a token comes to that moves the spot to p -/
def TK0 (k lv : Nat) (ws : Nat → Nat) (p : Int) (S T : ev_St) (A : Option (Int × ev_St)) (B : Option (Unit × ev_St)) : Prop := (∃ S' T', A = some (0, S') ∧ B = some ((), T') ∧ T'.1 621 25 = 1) ∨ ∃ S' T', A = some (1, S') ∧ B = some ((), T') ∧ RIa k lv ws S' T' ∧ TKp lv p S T S' T'
theorem mv_pI {p : Int} : MVd lv p S T (ev_pI S 3 8 p) (ev_pI T 645 lv p) := ⟨fun x g h _ => if_neg h, rd_eq, fun _ _ _ => rfl, fun x g h _ => if_neg h, rd_eq, rfl, fun _ _ _ _ => rfl, fun _ _ _ => rfl⟩
theorem tk_leaf {a b c c0 p : Int} {A : Option (Int × ev_St)} (h : RIb k lv ws N M D φ ψ own inn G R P q S T) (hg : GH lv N D y G P (Kt T) (Xt T) (T.1 645) (T.1 650)) (hN0 : RZ N D T) (hU : UPe k N M D φ ψ own G R P S T) (hkr : 232 ≤ k) (hm : MVd lv p S T S0 T0) (hp : T.1 645 lv + cst c0 ≤ p ∧ p ≤ S.1 (ws lv) 1) (h1 : ADr N c0 T0 T1) (hc0 : c0 ≠ 18) (v1 : ∀ a g, ¬ ((a = 628 ∨ a = 629) ∧ g = 3840 + N) → T2.1 a g = T1.1 a g) (hv : nval c0 (T2.1 628 (3840 + N)) (T2.1 629 (3840 + N)) ∧ ¬ (8 ≤ c0 ∧ c0 ≤ 13)) (hlg : ∀ c g, 633 ≤ c → c ≤ 634 → g < 3840 → T2.2.1 c g = T1.2.1 c g) (hA : LFo k N M D φ ψ own G R P q a b c S0 T0 A T2) : (∃ S', A = some (0, S') ∧ T2.1 621 25 = 1) ∨ ∃ S', A = some (1, S') ∧ RIa k lv ws S' T2 ∧ TKp lv p S T S' T2 := by
  have htx := h.2.1
  have p0 := htx.2.2.2.1 lv (Nat.le_refl _)
  have h120 := (LV_tx htx.1 htx.2.1 p0.1).2.2.1
  have h0 := RIb_mv h hkr hm (by omega)
  have lk := RDR_lk h0.1.1
  have hm0 := hm
  obtain ⟨m1, m2, m3, m4, m5, m6, m7, m8⟩ := hm
  rcases hA with ⟨S', e1, e2⟩ | ⟨S', e1, e2, e3, e4, _, _⟩
  · exact Or.inl ⟨S', e1, e2⟩
  · have q1 := RI_leaf h0 hkr h1 hc0 v1 e2 e3 e4
    obtain ⟨s0, rc, hs, hrc, k1, k2, k3⟩ := lk
    obtain ⟨⟨a1, a2, a3, a4, a5, a6⟩, ⟨u1, u2, u3, u4, u5, u6, u7, u8, u9, u10⟩, f1, f2, f3⟩ := h1
    rw [k1, k2] at f1 a6
    have hd := h.1.1.1.2.2.2.2
    have ck := ck_i k D (S0.1 (17 + D) 7)
    have tf : ∀ c g, ¬ (c = 635 ∧ g = 12) → ¬ (625 ≤ c ∧ c ≤ 632 ∧ g = 3840 + N) → ¬ (c = 621 ∧ (g = 25 ∨ g = 27 ∨ g = 38 ∨ g = 39)) → ¬ (c = rc ∧ g = 3840 + s0) → ¬ (c = 645 ∧ g = lv) → c ≤ 650 → T2.1 c g = T.1 c g := fun c g h1 h2 h3 h4 h5 h6 => by
      rw [v1 c g (by omega), f1 c g h1 h2 h3 h4, m4 c g h5 (by omega)]
    have v645 : T2.1 645 lv = p := by
      rw [v1 _ _ (by omega), f1 _ _ (by omega) (by omega) (by omega) (by omega), m5]
    refine Or.inr ⟨S', e1, ⟨N + 1, M + 1, D, nup φ N M, nup ψ N M, nup own M N, nup inn N (lkp (T0.1 621 38) (T0.1 621 37) - 3840), G, R, iup P D (N : Int), q, nup y N (T.1 645 lv).toNat, q1, ?_, ⟨by omega, by rw [tf _ _ (by omega) (by have := hN0.1; omega) (by omega) (by omega) (by omega) (by omega)]; exact hN0.2.1, fun i hi => by rw [tf _ _ (by omega) (by omega) (by omega) (by omega) (by omega) (by omega)]; exact hN0.2.2.1 i hi, ?rv⟩, ?up⟩, v645, fun i hi => tf _ _ (by omega) (by omega) (by omega) (by omega) (by omega) (by omega), fun x g z => tf x g (by unfold KTt at z; omega) (by unfold KTt at z; omega) (by unfold KTt at z; omega) (by unfold KTt at z; omega) (by unfold KTt at z; omega) (by unfold KTt at z; omega), fun x g z => ?_, fun x g z => by rw [e2.2.2.2, m3 x g (by omega)], by rw [v1 _ _ (by omega), a2, m4 _ _ (by omega) (by omega)]; omega, fun c g z => by unfold LOWc at z; exact tf c g (by omega) (by omega) (by omega) (by omega) (by omega) (by omega), fun c g x y z => by rw [hlg c g x y z, f2 c g (by omega), m7 c g x y]⟩
    case up =>
      refine UL_leaf hU h.1.1 h.1.2.1 hs k3 (fun m c hm hc he => tf c _ (by omega) (by omega) (by omega) (by omega) (by omega) (by omega)) ?_ ⟨by rw [v1 _ _ (by omega), u2], by rw [v1 _ _ (by omega), u3]⟩ (fun b hb => ?_) ?_
      · rw [v1 rc _ (by omega), a6]
      · rw [e2.2.2.1 _ _ (by omega) (by omega) (by omega) (by omega) (by omega), m1 _ _ (by omega) (by omega)]
      · exact e2.1.2.2.2.2 4 (by omega) (by omega)
    case rv =>
      refine RV_leaf hN0.2.2.2 (fun c m a b x y hm => tf c _ (by omega) (by omega) (by omega) (by omega) (by omega) (by omega)) (fun m c hm hc => by
        by_cases e : c = rc ∧ m = s0
        · refine Or.inr ⟨?_, LKc_i (lk_kd h.1.1 k3) e (by rw [v1 625 _ (by omega), u1]; exact hc0)⟩
          rw [v1 c _ (by omega), e.1, e.2, a6]
        · exact Or.inl (tf c _ (by omega) (by omega) (by omega) (by omega) (by omega) (by omega))) ⟨tf _ _ (by omega) (by omega) (by omega) (by omega) (by omega) (by omega), fun j => tf _ _ (by omega) (by omega) (by omega) (by omega) (by omega) (by omega)⟩ ?_ ?_ ?_ ⟨by rw [v1 _ _ (by omega), u2], by rw [v1 _ _ (by omega), u3]⟩
      · rw [v1 625 _ (by omega), u1]
        exact hv.1
      · rw [v1 _ _ (by omega), u6]
      · rw [v1 625 _ (by omega), u1]
        exact hv.2
    · refine GH_leaf hg hN0.1 (fun m hm => ?_) (fun m hm => ?_) ?_ ?_ p0.2.1 ?_ (by rw [v645]; omega) (fun j hj => tf _ _ (by omega) (by omega) (by omega) (by omega) (by omega) (by omega)) (fun i _ _ => tf _ _ (by omega) (by omega) (by omega) (by omega) (by omega) (by omega))
      · exact tf _ _ (by omega) (by omega) (by omega) (by omega) (by omega) (by omega)
      · rcases k3 with ⟨z1, z2, z3⟩ | ⟨z1, z2⟩
        · exact Or.inl (tf _ _ (by omega) (by omega) (by omega) (by omega) (by omega) (by omega))
        · by_cases e : m = s0
          · refine Or.inr ⟨by omega, ?_⟩
            subst e z2
            show T2.1 627 (3840 + m) = _
            rw [v1 _ _ (by omega), a6]
          · exact Or.inl (tf _ _ (by omega) (by omega) (by omega) (by omega) (by omega) (by omega))
      · show T2.1 625 (3840 + N) ≠ 18
        rw [v1 _ _ (by omega), u1]
        exact hc0
      · show T2.1 627 (3840 + N) = -1
        rw [v1 _ _ (by omega), u3]
      · rw [v645, show Kt T2 N = c0 from by show T2.1 625 (3840 + N) = _; rw [v1 _ _ (by omega), u1]]
        exact hp.1
    · have c11 := e2.2.2.1
      rw [c11 x g (by unfold KTs at z; omega) (by unfold KTs at z; omega) (by unfold KTs at z; omega) (by unfold KTs at z; omega) (by unfold KTs at z; omega)]
      exact m1 x g (by unfold KTs at z; omega) (by unfold KTs at z; omega)
/-- bits of the flags -/
theorem fl_1 {f : Int} (h : 0 ≤ f ∧ f ≤ 7) : (ev_iand f 1 = 0 ∨ ev_iand f 1 = 1) ∧ (ev_iand f 2 = 0 ∨ ev_iand f 2 = 2) ∧ (ev_iand f 4 = 0 ∨ ev_iand f 4 = 4) := by
  have q : ∀ n : Fin 8, (ev_iand (n.val : Int) 1 = 0 ∨ ev_iand (n.val : Int) 1 = 1) ∧ (ev_iand (n.val : Int) 2 = 0 ∨ ev_iand (n.val : Int) 2 = 2) ∧ (ev_iand (n.val : Int) 4 = 0 ∨ ev_iand (n.val : Int) 4 = 4) := by decide +kernel
  have := q ⟨f.toNat, by omega⟩
  rw [show ((f.toNat : Nat) : Int) = f from by omega] at this
  exact this
end RTOK
