/-! SEARCH: the tags of the class's frames: kind, calls around, looks around -/
section OPYR
variable {Q us l c k t : Nat} {S : ev_St} {o a b kd : Int}
theorem tag_and : ∀ (x : Fin 42) (y : Fin 256), ev_iand ((256 * x.1 + y.1 : Nat) : Int) (-8) = ((256 * x.1 + y.1 / 8 * 8 : Nat) : Int) ∧ ev_iand ((256 * x.1 + y.1 : Nat) : Int) 7 = ((y.1 % 8 : Nat) : Int) := by decide +kernel
theorem tag_8 (hl : l ≤ 40) (hc : c < 32) (hk : k < 8) : ev_iand ((256 * l + 8 * c + k : Nat) : Int) (-8) = ((256 * l + 8 * c : Nat) : Int) ∧ ev_iand ((256 * l + 8 * c + k : Nat) : Int) 7 = (k : Int) := by
  have q := tag_and ⟨l, by omega⟩ ⟨8 * c + k, by omega⟩
  have q1 : ev_iand ((256 * l + (8 * c + k) : Nat) : Int) (-8) = ((256 * l + (8 * c + k) / 8 * 8 : Nat) : Int) := q.1
  have q2 : ev_iand ((256 * l + (8 * c + k) : Nat) : Int) 7 = (((8 * c + k) % 8 : Nat) : Int) := q.2
  rw [show 256 * l + (8 * c + k) = 256 * l + 8 * c + k from by omega] at q1 q2
  rw [q1, q2, show (8 * c + k) / 8 * 8 = 8 * c from by omega, show (8 * c + k) % 8 = k from by omega]
  exact ⟨rfl, rfl⟩
/-- calls c and looks l around the frame o -/
def ARo (S : ev_St) (us : Nat) (o : Int) (l c : Nat) : Prop := (o = -1 ∧ l = 0 ∧ c = 0) ∨ ∃ f k : Nat, o = (f : Int) ∧ f + 4 ≤ us ∧ S.1 282 (f + 1) = ((256 * l + 8 * c + k : Nat) : Int) ∧ l ≤ 40 ∧ c ≤ 20 ∧ k < 8
theorem cs_around (hu : S.1 281 7 = (us : Int)) (h2 : us ≤ 76072) (h : ARo S us (S.1 281 4) l c) : jm_127 Q S = some ((c : Int), S) ∧ jm_128 Q S = some ((l : Int), S) := by
  obtain ⟨l82, _⟩ := al_Sc
  unfold jm_127 jm_128
  rcases h with ⟨h1, rfl, rfl⟩ | ⟨f, k, h1, h3, h4, h5, h6, h7⟩
  · refine ⟨?_, ?_⟩ <;> rw [sp_b, h1, (cs_is hu h2).1 (by decide), sp_bd, if_pos rfl] <;> rfl
  · refine ⟨?_, ?_⟩
    · rw [sp_b, h1, (cs_is hu h2).2 (by omega) (by omega), sp_bd, if_neg (by decide), sp_b, h1, sp_ck (by omega), sp_if (by rw [l82]; omega), sp_b, show Int.toNat ((f : Int) + 1) = f + 1 from by omega, h4, sp_if (by decide), sp_b, sp_if (by decide), sp_b, sp_div (by omega) (by omega), sp_rem (by omega) (by omega), show ((256 * l + 8 * c + k : Nat) : Int) / 8 % 32 = (c : Int) from by omega]
    · rw [sp_b, h1, (cs_is hu h2).2 (by omega) (by omega), sp_bd, if_neg (by decide), sp_b, h1, sp_ck (by omega), sp_if (by rw [l82]; omega), sp_b, show Int.toNat ((f : Int) + 1) = f + 1 from by omega, h4, sp_if (by decide), sp_b, sp_div (by omega) (by omega), show ((256 * l + 8 * c + k : Nat) : Int) / 256 = (l : Int) from by omega]
/-- a frame upon the frame o -/
theorem cs_push (hu : S.1 281 7 = (us : Int)) (h2 : us + 4 ≤ 76072) (h : ARo S us o l c) (hk : kd = 0 ∨ kd = 1 ∨ kd = 2 ∨ kd = 3) : jm_124 Q o kd a b S = some ((us : Int), pCell S us o (((256 * l + 8 * c : Nat) : Int) + (if kd = 2 then 8 else if kd = 3 then 256 else 0) + kd) a b) := by
  obtain ⟨l82, _⟩ := al_Sc
  have lc : l ≤ 40 ∧ c ≤ 20 := by
    rcases h with ⟨_, rfl, rfl⟩ | ⟨_, _, _, _, _, h5, h6, _⟩
    · omega
    · exact ⟨h5, h6⟩
  have go : ∀ x3 : Int, x3 = ((256 * l + 8 * c : Nat) : Int) → (ev_jn (fun (x11 : Int) (x12 : Int) (s20 : ev_St) => ev_ck (x11 + x12) fun x21 => ev_ck (x21 + kd) fun x22 => ev_bd (jm_125 Q o x22 a b s20) fun x24 s23 => some (x24, s23)) fun K47 => if kd ≠ 2 then (if kd ≠ 3 then (K47 x3 0 S) else (K47 x3 256 S)) else (K47 x3 8 S)) = some ((us : Int), pCell S us o (((256 * l + 8 * c : Nat) : Int) + (if kd = 2 then 8 else if kd = 3 then 256 else 0) + kd) a b) := fun x3 e => by
    subst e
    rw [sp_jn]
    by_cases z2 : kd = 2
    · rw [if_neg (fun z => z z2), if_pos z2]
      try dsimp only
      rw [sp_ck (by omega), sp_ck (by omega), cs_cell hu h2, sp_bd]
    · rw [if_pos z2, if_neg z2]
      by_cases z3 : kd = 3
      · rw [if_neg (fun z => z z3), if_pos z3]
        try dsimp only
        rw [sp_ck (by omega), sp_ck (by omega), cs_cell hu h2, sp_bd]
      · rw [if_pos z3, if_neg z3]
        try dsimp only
        rw [sp_ck (by omega), sp_ck (by omega), cs_cell hu h2, sp_bd]
  unfold jm_124
  rcases h with ⟨h1, rfl, rfl⟩ | ⟨f, k, h1, h3, h4, h5, h6, h7⟩
  · rw [(cs_is hu (by omega)).1 (by omega), sp_bd, sp_jn, if_pos rfl]
    exact go 0 rfl
  · rw [(cs_is hu (by omega)).2 (by omega) (by omega), sp_bd, sp_jn, if_neg (by decide), sp_ck (by omega), sp_if (by rw [l82]; omega), sp_b, show Int.toNat (o + 1) = f + 1 from by omega, h4, sp_b]
    exact go _ (tag_8 h5 (by omega) h7).1
end OPYR
