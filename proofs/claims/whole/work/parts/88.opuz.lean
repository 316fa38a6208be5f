/-! THE READER: switches, flags that are told anew -/
section RSWI6
variable {Q k n m w d N M D lv t : Nat} {φ ψ own inn G R ws y : Nat → Nat} {P q : Nat → Int} {S T S0 T0 S1 S' S2 T2 T1 T3 U : ev_St}
theorem pI_idx {a b : Nat} {x : Int} (h : S.1 a b = x) : ev_pI S a b x = S := by
  have e : (ev_pI S a b x).1 = S.1 := funext fun c => funext fun g => by
    rw [sp_pI1]
    by_cases z : c = a ∧ g = b
    · rw [if_pos z, z.1, z.2, h]
    · rw [if_neg z]
  show ((ev_pI S a b x).1, S.2) = S
  rw [e]
/-- the spot alone moves on -/
theorem RIa_mv {p : Int} (h : RIa k lv ws S T) (hkr : 232 ≤ k) (hp : T.1 645 lv ≤ p ∧ p ≤ S.1 (ws lv) 1) : RIa k lv ws (ev_pI S 3 8 p) (ev_pI T 645 lv p) ∧ TKp lv p S T (ev_pI S 3 8 p) (ev_pI T 645 lv p) := by
  obtain ⟨N, M, D, φ, ψ, own, inn, G, R, P, q, y, h, hg, hz, hU⟩ := h
  have p0 := h.2.1.2.2.2.1 lv (Nat.le_refl _)
  refine ⟨⟨N, M, D, φ, ψ, own, inn, G, R, P, q, y, RIb_mv h hkr mv_pI (by omega), ?_, ⟨hz.1, by rw [rd_nk (by omega)]; exact hz.2.1, fun i hi => by rw [rd_nk (by omega)]; exact hz.2.2.1 i hi, RV_c hz.2.2.2 (fun c m _ _ _ => rd_nk (by omega)) ⟨rd_nk (by omega), fun j => rd_nk (by omega)⟩⟩, UPe_c hU h.1.1 (fun b hb => rd_nk (by omega)) (fun m c hm hc => rd_nk (by omega))⟩, rd_eq, fun i hi => rd_nf (by omega), fun x g z => by rw [rd_nk (by unfold KTt at z; omega)], fun x g z => by rw [sp_pI1, if_neg (by unfold KTs at z; omega)], fun _ _ _ => rfl, by rw [rd_nk (by omega)]; exact Int.le_refl _, fun c g z => by unfold LOWc at z; exact rd_nk (by omega), fun _ _ _ _ _ => rfl⟩
  have eK : Kt (ev_pI T 645 lv p) = Kt T := funext fun m => rd_nk (by omega)
  have eX : Xt (ev_pI T 645 lv p) = Xt T := funext fun m => rd_nk (by omega)
  have eO : (ev_pI T 645 lv p).1 650 = T.1 650 := funext fun m => rd_nk (by omega)
  rw [eK, eX, eO]
  refine GH_pos hg fun j hj => ?_
  by_cases e : j = lv
  · rw [e, rd_eq]
    exact hp.1
  · rw [rd_nf (by omega)]
    exact Int.le_refl _
/-- other flags on both sides -/
theorem RIa_fl {p f : Int} (hkr : 232 ≤ k) (h : RIa k lv ws S' T3) (h2 : TKp lv p S T S' T3) (hff : 0 ≤ f ∧ f ≤ 7) : RIa k lv ws (ev_pI S' 3 11 f) (ev_pI T3 621 40 f) ∧ TKp lv p S T (ev_pI S' 3 11 f) (ev_pI T3 621 40 f) := by
  have s1 : ∀ x g, ¬ (x = 3 ∧ g = 11) → (ev_pI S' 3 11 f).1 x g = S'.1 x g := fun x g hx => by rw [sp_pI1, if_neg hx]
  have t1 : ∀ x g, ¬ (x = 621 ∧ g = 40) → (ev_pI T3 621 40 f).1 x g = T3.1 x g := fun x g hx => by rw [sp_pI1, if_neg hx]
  obtain ⟨N, M, D, φ, ψ, own, inn, G, R, P, q, y, ⟨⟨hR, hL⟩, ht, hg, hc, hf, hy, h9, h25⟩, hg2, hz, hU⟩ := h
  obtain ⟨a1, a2, a3, a4, a5, a6, a7⟩ := h2
  have hd := hR.1.2.2.2.2
  have hl := ht.2.2.2.1 lv (Nat.le_refl _)
  refine ⟨⟨N, M, D, φ, ψ, own, inn, G, R, P, q, y, ⟨⟨RDR_c hR ⟨s1 _ _ (by omega), s1 _ _ (by omega)⟩ (fun i hi => funext fun g => s1 _ _ (by omega)) (fun j h1 h2 => funext fun g => s1 _ _ (by omega)) (fun j _ _ => rfl) ⟨t1 _ _ (by omega), t1 _ _ (by omega), t1 _ _ (by omega), t1 _ _ (by omega)⟩ (fun c _ _ => funext fun g => t1 _ _ (by omega)) (fun c _ _ => funext fun g => t1 _ _ (by omega)) (fun _ _ _ => rfl), LKS_c hL (fun c m _ _ => t1 _ _ (by omega)) (fun m _ _ => t1 _ _ (by omega))⟩, RIt_pos ht (fun x g z => s1 x g (by unfold KTs at z; omega)) (fun _ _ _ => rfl) (fun x g z => t1 x g (by unfold KTt at z; omega)) (fun i _ => t1 _ _ (by omega)) ⟨by rw [s1 _ _ (by omega), t1 _ _ (by omega)]; exact ht.2.2.2.2.2.1.2, by rw [t1 _ _ (by omega)]; exact hl.2.1, by rw [t1 _ _ (by omega)]; exact hl.2.2⟩, ?_, ?_, ?_, ?_, h9, by rw [t1 _ _ (by omega)]; exact h25⟩, ?_, ⟨hz.1, by rw [t1 _ _ (by omega)]; exact hz.2.1, fun i hi => by rw [t1 _ _ (by omega)]; exact hz.2.2.1 i hi, RV_c hz.2.2.2 (fun c m _ _ _ => t1 _ _ (by omega)) ⟨t1 _ _ (by omega), fun j => t1 _ _ (by omega)⟩⟩, UPe_c hU hR (fun b hb => s1 _ _ (by omega)) (fun m c hm hc => t1 _ _ (by omega))⟩, by rw [t1 _ _ (by omega)]; exact a1, fun i hi => by rw [t1 _ _ (by omega)]; exact a2 i hi, fun x g z => by rw [t1 x g (by unfold KTt at z; omega)]; exact a3 x g z, fun x g z => by rw [s1 x g (by unfold KTs at z; omega)]; exact a4 x g z, a5, by rw [t1 _ _ (by omega)]; exact a6, LOW_t a7 ⟨fun c g z => by unfold LOWc at z; exact t1 c g (by omega), fun _ _ _ _ _ => rfl⟩⟩
  · unfold RIg at hg ⊢
    rw [s1 k 12 (by omega), t1 636 12 (by omega), t1 637 120 (by omega)]
    refine ⟨hg.1, fun l hl => ?_, fun j h1 h2 => ?_, fun i h1 h2 => ?_, hg.2.2.2.2⟩
    · rw [s1 _ _ (by omega), t1 _ _ (by omega)]
      exact hg.2.1 l hl
    · obtain ⟨t, z1, z2, z3, z4, z5⟩ := hg.2.2.1 j h1 h2
      exact ⟨t, by rw [t1 _ _ (by omega), z1], z2, by rw [t1 _ _ (by omega), z3], by rw [t1 _ _ (by omega), z4], fun y => by rw [s1 _ _ (by omega), z5 y]⟩
    · rw [t1 _ _ (by omega)] at h2
      obtain ⟨j, z1, z2, z3, z4⟩ := hg.2.2.2.1 i h1 h2
      exact ⟨j, z1, z2, by rw [t1 _ _ (by omega), z3], by rw [t1 _ _ (by omega), z4]⟩
  · unfold RIc at hc ⊢
    rw [s1 3 14 (by omega), s1 3 13 (by omega), t1 621 27 (by omega), nrc_c (f := Kn T3) (f' := Kn (ev_pI T3 621 40 f)) N (fun m _ => t1 _ _ (by omega))]
    exact hc
  · unfold RIf at hf ⊢
    rw [rd_eq, rd_eq]
    exact ⟨rfl, hff⟩
  · unfold RIm at hy ⊢
    rw [s1 3 13 (by omega), t1 621 39 (by omega)]
    rcases hy with z | ⟨z, t, z1, z2, z3⟩
    · exact Or.inl z
    · exact Or.inr ⟨z, t, z1, z2, by rw [t1 _ _ (by omega), z3]⟩
  · have eK : Kt (ev_pI T3 621 40 f) = Kt T3 := funext fun m => t1 _ _ (by omega)
    have eX : Xt (ev_pI T3 621 40 f) = Xt T3 := funext fun m => t1 _ _ (by omega)
    have eO : (ev_pI T3 621 40 f).1 650 = T3.1 650 := funext fun m => t1 _ _ (by omega)
    have eV : (ev_pI T3 621 40 f).1 645 = T3.1 645 := funext fun m => t1 _ _ (by omega)
    rw [eK, eX, eO, eV]
    exact hg2
/-- the reference's switches where it is bad already -/
theorem swK_bad {x5 x6 pe : Int} (h : RIb k lv ws N M D φ ψ own inn G R P q S T) (hp : 0 ≤ pe ∧ pe ≤ 300) : ∃ T', swK Q x5 x6 (xS lv T pe 1) = some ((), T') ∧ T'.1 621 25 = 1 := by
  have ht := h.2.1
  obtain ⟨T1, t1, _, t25, t3⟩ := tk_badO (Q := Q) 9 (r := pe + 1) h
  obtain ⟨T3, t4, t5⟩ := t3 T1 (fun _ _ _ => rfl)
  unfold swK
  rw [xT ht (by omega), sp_bd, Int.add_zero, xG ht (by omega), sp_bd]
  by_cases e1 : sp_at S (ws lv) pe = 41
  · rw [if_neg (fun z => z e1)]
    refine ⟨_, rfl, ?_⟩
    rw [rd_nf (by omega), rd_nf (by omega), xS_25]
  · rw [if_pos e1]
    by_cases e2 : sp_at S (ws lv) pe = 58
    · rw [if_neg (fun z => z e2), t1, sp_bd, t4, sp_bd]
      refine ⟨_, rfl, ?_⟩
      rw [rd_nf (by omega), t5]
    · rw [if_pos e2]
      exact ⟨_, rfl, rd_eq⟩
end RSWI6
