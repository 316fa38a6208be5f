/-! THE READER'S TABLES carried over what does not touch them; a character on both sides -/
section CARRY
variable {Q k N M D m : Nat} {φ ψ own G R : Nat → Nat} {P q : Nat → Int} {S T S2 T2 : ev_St}
theorem RDR_c (h : RDR k N M D φ ψ own G R P q S T) (s1 : S2.1 k 11 = S.1 k 11 ∧ S2.1 3 10 = S.1 3 10) (s2 : ∀ i, i ≤ D → S2.1 (17 + i) = S.1 (17 + i)) (s3 : ∀ j, 1 ≤ j → j ≤ 5 → S2.1 (k + j) = S.1 (k + j)) (s4 : ∀ j, 8 ≤ j → j ≤ 9 → S2.2.1 (k + j) = S.2.1 (k + j)) (t1 : T2.1 635 12 = T.1 635 12 ∧ T2.1 621 31 = T.1 621 31 ∧ T2.1 621 37 = T.1 621 37 ∧ T2.1 621 38 = T.1 621 38) (t2 : ∀ c, 625 ≤ c → c ≤ 632 → T2.1 c = T.1 c) (t3 : ∀ c, 646 ≤ c → c ≤ 650 → T2.1 c = T.1 c) (t4 : ∀ c, 633 ≤ c → c ≤ 634 → T2.2.1 c = T.2.1 c) : RDR k N M D φ ψ own G R P q S2 T2 := by
  obtain ⟨⟨e1, e2, e3, e4, e5⟩, hG, hst, ⟨e6, e7⟩, ho, hn⟩ := h
  refine ⟨⟨by rw [t1.1, e1], by rw [s1.1, e2], by rw [s1.2, e3], by rw [t1.2.1, e4], e5⟩, hG, fun i hi => ?_, ⟨by rw [t1.2.2.1, e6], by rw [t1.2.2.2, e7]⟩, fun i hi => ?_, fun m hm => ?_⟩
  · rw [t3 646 (by omega) (by omega), t3 647 (by omega) (by omega), t3 648 (by omega) (by omega)]
    exact hst i hi
  · have q := ho i hi
    unfold ORw OIt OGr at q ⊢
    rw [s2 i hi, t2 625 (by omega) (by omega), t2 626 (by omega) (by omega), t2 627 (by omega) (by omega), t2 628 (by omega) (by omega), t2 629 (by omega) (by omega), t2 630 (by omega) (by omega), t3 649 (by omega) (by omega), t3 650 (by omega) (by omega)]
    exact q
  · exact NR_c (hn m hm) hm.1 hm (Nat.le_refl _) (Nat.le_refl _) (fun t _ => Iff.rfl) (fun t _ _ => rfl) (fun t _ _ => rfl) (fun b _ => rfl) (fun b j _ _ a1 a2 => by rw [s3 j a1 a2]) (fun b j _ _ a1 a2 => by rw [s4 j a1 a2]) (fun c a1 a2 => by rw [t2 c a1 a2]) (fun c a1 a2 => by rw [t4 c a1 a2])
/-- a character that stands for itself -/
theorem leaf_char {x bo : Int} (hQ : 300 ≤ Q) (hx : sp_sign x = 1) (hR : RDR k N M D φ ψ own G R P q S T) (hk : ev_isOb k 5 = true) (hkr : 232 ≤ k) (h9 : S.2.2.1 3 9 = k + 1) (hM : M < 400) (hN : N < 320) (hc : S.1 3 14 = T.1 621 27 ∧ 0 ≤ T.1 621 27 ∧ T.1 621 27 ≤ 150) (hb : T.1 621 25 = 0) (hs : (ev_iand (S.1 3 11) 1 = 0 ∧ bo = 0) ∨ (ev_iand (S.1 3 11) 1 ≠ 0 ∧ bo ≠ 0)) : ∃ T1 T', jm_245 Q x x bo T = some ((), T1) ∧ jm_238 Q (T1.2.1 621 41) (T1.2.1 621 42) T1 = some ((), T') ∧ LFo k N M D φ ψ own G R P q 0 0 0 S T (jm_89 Q x S) T' ∧ LFr N T1 T' ∧ T1.1 = T.1 := by
  have r := sp_sign_r hx
  obtain ⟨T1, a1, a2, a3, a4, a5⟩ := sp_245 (Q := Q) (x := x) (e := x) (bo := bo) (S := T) (by omega) (by omega) (by omega)
  obtain ⟨b1, b2⟩ := ch_SB hx a2 hs
  have hR1 : RDR k N M D φ ψ own G R P q S T1 := RDR_c hR ⟨rfl, rfl⟩ (fun _ _ => rfl) (fun _ _ _ => rfl) (fun _ _ _ => rfl) ⟨by rw [a3], by rw [a3], by rw [a3], by rw [a3]⟩ (fun c _ _ => by rw [a3]) (fun c _ _ => by rw [a3]) (fun c h1 h2 => by
    funext g
    exact a4 c g (by omega))
  obtain ⟨T', c1, c2, c3⟩ := leaf_set (Q := Q) hR1 hk hkr h9 hM hN (by rw [a3]; exact hc) (by rw [a3]; exact hb) b1 b2
  refine ⟨T1, T', a1, c1, ?_, c3, a3⟩
  rcases c2 with ⟨S', d1, d2⟩ | ⟨S', d1, d2, d3, d4, d5, d6⟩
  · exact Or.inl ⟨S', by rw [sp_89 (by omega), d1, sp_bd, sp_if (Or.inl rfl)], d2⟩
  · exact Or.inr ⟨S', by rw [sp_89 (by omega), d1, sp_bd, sp_if (Or.inr rfl)], d2, d3, d4, by rw [d5, a3], d6⟩
end CARRY
