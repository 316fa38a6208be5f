/-! STREAMS: the class's threads, character by character -/
section ORO
variable {Q k g w l s wd n x B : Nat} {P : Nat → T3} {X X2 : Nat → SNs} {lv A : SNs} {c : CPs} {L : List INS} {S S0 U : ev_St} {a2 : Int} {an : Bool}
/-- threads of a stream that has had x characters, as the class keeps them -/
def SSc (k g wd n : Nat) (P : Nat → T3) (X : Nat → SNs) (lv : SNs) (an : Bool) (B x : Nat) (S : ev_St) : Prop := ∃ l l2 s s2 st A c, SWc k g wd l l2 s s2 st S ∧ st ≤ B ∧ TRc k l s wd n (st : Int) A c (stm P n X lv an x).1 S ∧ CLb k wd (stm P n X lv an x).2 S
theorem SWc_h {l l2 s s2 st : Nat} (h : SWc k g wd l l2 s s2 st S) (p : HTc k l s S U) : SWc k g wd l l2 s s2 st U := by
  obtain ⟨v1, ⟨v2, v3⟩, v4, v5⟩ := h
  exact ⟨by rw [p.2]; exact v1, ⟨(p.1 k 0 (by omega) (by omega) (by omega) (by omega)).trans v2, (p.1 k 7 (by omega) (by omega) (by omega) (by omega)).trans v3⟩, v4, v5⟩
theorem cl_step (hR : RST Q k g w wd n (x + 1) L P (fun _ => noE) X lv S) (hQ : 6000 ≤ Q) (h : SSc k g wd n P X lv an B x S) (hB : B ≤ 1999999990) (ha : a2 ≠ 0 ↔ ¬ an = true) : ∃ S1 S2, jm_161 Q k (w + 1) (x : Int) S = some ((), S1) ∧ jm_160 Q k (w + 1) ((x + 1 : Nat) : Int) a2 S1 = some ((), S2) ∧ GTc k S S1 ∧ GTc k S S2 ∧ SSc k g wd n P X lv an (B + 1) (x + 1) S2 := by
  have hR0 := hR
  obtain ⟨⟨⟨a1, a2', a3, a4, a5, a6, a7, a8, a9⟩, ag⟩, ⟨hp, hn, h0⟩, _, _, _, _, _, ⟨k1, k4⟩, hw⟩ := hR
  have n208 : n ≤ 208 := by rw [hn]; exact hp.2.1
  obtain ⟨l, l2, s, s2, st, A, c, h1, h2, h3, h4⟩ := h
  obtain ⟨m1, m2⟩ := stm_m (X := X) (lv := lv) (an := an) hw h0 x
  obtain ⟨S1, c1, b1, b2, b3, b4, b5⟩ := cl_pass hR0 (Nat.le_succ x) hQ GTc_r h1 (by omega) h3 m1 (fun _ _ _ => Nat.le_refl _) (by omega)
  have t1 := TST_of hR0 b2 b3 (Nat.le_refl _)
  obtain ⟨S2, A', c', p1, p2, p3, p4⟩ := cl_place (ms := mst an (stm P n X lv an x).2) (a2 := a2) t1 a7 FTc_r b4 (suc_in hw _ m1) h0 (CLb_c h4 ⟨b5.1, b5.2.1, fun j _ => b5.2.2 j⟩) (by
    unfold mst
    by_cases z : an = true
    · rw [if_pos z]
      exact ⟨fun y => Bool.noConfusion y, fun y => absurd z (ha.mp y.1)⟩
    · rw [if_neg z, Option.isNone_iff_eq_none]
      exact ⟨fun y => ⟨ha.mpr z, y⟩, fun y => y.2⟩) hQ
  have q3 := b3.2.2.1
  have q4 := b3.2.2.2
  exact ⟨S1, S2, b1, p1, b2, GTc_t b2 (GTc_h p2 (by omega) (by omega)), l2, l, s2, s, st + 1, A', c', SWc_h b3 p2, by omega, p3, p4⟩
/-- the first place -/
theorem cl_first {l l2 s s2 st : Nat} (hR : RST Q k g w wd n 0 L P (fun _ => noE) X lv S) (hQ : 6000 ≤ Q) (hs : SWc k g wd l l2 s s2 st S) (hst : st ≤ B) (h3 : ∀ i, i < 208 → S.1 (k + 3) i < (st : Int)) (h14 : S.1 k 14 = 0) (h15 : S.1 k 15 = 0) : ∃ S2, jm_160 Q k (w + 1) 0 1 S = some ((), S2) ∧ GTc k S S2 ∧ SSc k g wd n P X lv an B 0 S2 := by
  have hR0 := hR
  obtain ⟨⟨⟨a1, a2', a3, a4, a5, a6, a7, a8, a9⟩, ag⟩, ⟨hp, hn, h0⟩, _, _, _, _, _, ⟨k1, k4⟩, hw⟩ := hR
  have t1 := TST_of hR0 GTc_r hs (Nat.le_refl 0)
  have hT : TRc k l s wd n (st : Int) (dfsL P noE 0 n [] (fun _ => false)).2 (fun j => S.1 (k + 6) j) (flt lv (dfsL P noE 0 n [] (fun _ => false)).1) S := ⟨fun i hi => ⟨Int.le_of_lt (h3 i hi), fun _ => ⟨fun y => Bool.noConfusion y, fun y => absurd y (Int.ne_of_lt (h3 i hi))⟩⟩, fun _ _ => rfl, h15, fun i q d h => by cases h⟩
  obtain ⟨S2, A', c', p1, p2, p3, p4⟩ := cl_place (ms := true) (a2 := 1) (b := none) t1 a7 FTc_r hT (fun y hy => by cases hy) h0 h14 ⟨fun _ => ⟨by decide, rfl⟩, fun _ => rfl⟩ hQ
  have q3 := hs.2.2.1
  have q4 := hs.2.2.2
  exact ⟨S2, p1, GTc_h p2 (by omega) (by omega), l, l2, s, s2, st, A', c', SWc_h hs p2, hst, p3, p4⟩
end ORO
