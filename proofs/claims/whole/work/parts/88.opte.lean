/-! THE READER: characters that stand for themselves, and "." -/
section CHARS
variable {Q : Nat} {S T : ev_St}
theorem iand63 {x : Int} (h : 0 ≤ x ∧ x < 127) : ev_iand x 63 = if 64 ≤ x then x - 64 else x := by
  have q : ∀ n : Fin 127, ev_iand (n.val : Int) 63 = if 64 ≤ (n.val : Int) then (n.val : Int) - 64 else (n.val : Int) := by decide +kernel
  have := q ⟨x.toNat, by omega⟩
  rw [show ((x.toNat : Nat) : Int) = x from by omega] at this
  exact this
theorem sp_89 {x : Int} (hx : 0 ≤ x ∧ x < 127) : jm_89 Q x S = ev_bd (jm_90 Q (cl1 x) (if ev_iand (S.1 3 11) 1 = 0 then ch1 x else fh (ch1 x)) S) fun x23 s22 => ev_if (ev_bl x23) (some (x23, s22)) := by
  unfold jm_89 cl1 ch1
  rw [sp_b, iand63 hx, sp_b]
  by_cases e : 64 ≤ x
  · simp only [if_pos e, sp_jn]
    rw [sp_86, sp_bd]
    by_cases f : ev_iand (S.1 3 11) 1 = 0
    · rw [if_pos f, if_pos f, if_pos rfl]
    · rw [if_neg f, if_neg f, if_neg (by decide), sp_215, sp_bd]
  · simp only [if_neg e, sp_jn]
    rw [sp_86, sp_bd]
    by_cases f : ev_iand (S.1 3 11) 1 = 0
    · rw [if_pos f, if_pos f, if_pos rfl]
    · rw [if_neg f, if_neg f, if_neg (by decide), sp_215, sp_bd]
/-- the same set on both sides, with both cases or not -/
theorem ch_SB {x bo : Int} (hx : sp_sign x = 1) {a b : Int64} (hr : (∀ c, sp_sign c = 1 → rb a b c = (decide (x ≤ c ∧ c ≤ x) || (decide (bo ≠ 0) && decide (x ≤ oth c ∧ oth c ≤ x)))) ∧ RVz b) {fl : Int} (hb : (fl = 0 ∧ bo = 0) ∨ (fl ≠ 0 ∧ bo ≠ 0)) : SB (cl1 x) (if fl = 0 then ch1 x else fh (ch1 x)) a b ∧ SV (cl1 x) (if fl = 0 then ch1 x else fh (ch1 x)) := by
  have e1 : ∀ c, decide (x ≤ c ∧ c ≤ x) = decide (c = x) := fun c => by
    by_cases h : c = x
    · rw [decide_eq_true h, decide_eq_true (by omega)]
    · rw [decide_eq_false h, decide_eq_false (by omega)]
  have q := SV_one hx
  refine ⟨⟨fun c hc => ?_, hr.2⟩, ?_⟩
  · rw [hr.1 c hc, e1, e1]
    rcases hb with ⟨h1, h2⟩ | ⟨h1, h2⟩
    · rw [if_pos h1, h2, decide_eq_false (show ¬ (0 : Int) ≠ 0 by decide), Bool.false_and, Bool.or_false, cb_one hx hc]
    · rw [if_neg h1, cb_fh hc (fun _ _ _ => trivial), cb_one hx hc, cb_one hx (oth_sign hc), decide_eq_true h2, Bool.true_and]
      by_cases e : oth c = c
      · rw [e, decide_eq_false (show ¬ c ≠ c from fun z => z rfl)]
        simp
      · rw [decide_eq_true e, Bool.true_and]
  · split
    · exact q
    · refine ⟨q.1, fun i hi e => ?_⟩
      rw [lb_fh _ hi, Bool.or_eq_true, Bool.or_eq_true, Bool.and_eq_true, Bool.and_eq_true] at e
      rcases e with (e | e) | e
      · exact q.2 i hi e
      · have := of_decide_eq_true e.1
        omega
      · have := of_decide_eq_true e.1
        omega
theorem SB_fin {l h a b : Int64} (hq : ∀ n : Fin 127, sp_sign (n.val : Int) = 1 → cb l h (n.val : Int) = rb a b (n.val : Int)) : SBz l h a b := fun c hc => by
  have r := sp_sign_r hc
  have := hq ⟨c.toNat, by omega⟩
  rw [show ((c.toNat : Nat) : Int) = c from by omega] at this
  exact this hc
theorem SB_dot : SB (-4294967296) 9223372036854775807 (-2) 4294967295 ∧ SB (-4294966272) 9223372036854775807 (-1) 4294967295 := by
  have v : RVz 4294967295 := fun i hi e => by
    rw [lb_32 ⟨i, hi⟩] at e
    exact of_decide_eq_true e
  exact ⟨⟨SB_fin (by decide +kernel), v⟩, ⟨SB_fin (by decide +kernel), v⟩⟩
theorem SV_fin {l h : Int64} (h1 : ∀ i : Fin 64, lb l i.val = true → i.val = 10 ∨ 32 ≤ i.val) (h2 : ∀ i : Fin 64, lb h i.val = true → i.val ≤ 62) : SV l h := ⟨fun i hi e => h1 ⟨i, hi⟩ e, fun i hi e => h2 ⟨i, hi⟩ e⟩
theorem SV_dot : SV (-4294967296) 9223372036854775807 ∧ SV (-4294966272) 9223372036854775807 := ⟨SV_fin (by decide +kernel) (by decide +kernel), SV_fin (by decide +kernel) (by decide +kernel)⟩
end CHARS
