/-! STREAMS: a place, on the class's side -/
section ORN
variable {Q k g w l s wd n x d : Nat} {P : Nat → T3} {lv A : SNs} {c : CPs} {rs : LFs} {L : List INS} {S S0 U : ev_St} {a2 stamp : Int} {ms : Bool} {b : Option (Nat × CPs)}
/-- the best so far, as the class keeps it -/
def CLb (k wd : Nat) (b : Option (Nat × CPs)) (S : ev_St) : Prop := match b with
  | none => S.1 k 14 = 0
  | some e => S.1 k 14 = 1 ∧ S.1 k 13 = (e.1 : Int) ∧ ∀ j, j < wd → S.1 (k + 7) j = e.2 j
theorem CLb_n (h : CLb k wd b S) : S.1 k 14 = 0 ↔ b = none := by
  cases b with
  | none => exact ⟨fun _ => rfl, fun _ => h⟩
  | some e =>
    have h1 : S.1 k 14 = 1 := h.1
    exact ⟨fun z => absurd (h1.symm.trans z) (by decide), fun z => by cases z⟩
theorem CLb_c (h : CLb k wd b S) (h1 : U.1 k 14 = S.1 k 14 ∧ U.1 k 13 = S.1 k 13 ∧ ∀ j, j < wd → U.1 (k + 7) j = S.1 (k + 7) j) : CLb k wd b U := by
  cases b with
  | none => exact h1.1.trans h
  | some e => exact ⟨h1.1.trans h.1, h1.2.1.trans h.2.1, fun j hj => (h1.2.2 j hj).trans (h.2.2 j hj)⟩
theorem cl_place (hT : TST Q k g w l s wd n x L P noE lv stamp S0) (h7 : ev_aln (k + 7) = wd) (hF : FTc k l s S0 S) (hR : TRc k l s wd n stamp (dfsL P noE x n rs (fun _ => false)).2 c (flt lv (dfsL P noE x n rs (fun _ => false)).1) S) (hrs : ∀ y, y ∈ rs → y.1 < n) (h0 : 0 < n) (hb : CLb k wd b S) (hms : ms = true ↔ (a2 ≠ 0 ∧ b = none)) (hQ : 6000 ≤ Q) : ∃ S' A' c', jm_160 Q k (w + 1) (x : Int) a2 S = some ((), S') ∧ HTc k l s S S' ∧ TRc k l s wd n stamp A' c' (stb P n lv x rs ms b).1 S' ∧ CLb k wd (stb P n lv x rs ms b).2 S' := by
  obtain ⟨S', c', a1, a2', a3, a4⟩ := cl_settle hT h7 hF hR hrs h0 (ms := ms) (a2 := a2) (by rw [hms, CLb_n hb]) hQ
  refine ⟨S', _, c', a1, a2', a3, ?_⟩
  unfold stb
  dsimp only
  cases hc : (cut P (flt lv (dfsL P noE x n (rts x rs ms) (fun _ => false)).1)).2 with
  | none =>
    rw [hc] at a4
    exact CLb_c hb a4
  | some e =>
    rw [hc] at a4
    exact a4
end ORN
