/-! THE READER: only the inmost text's spot is moved by a class -/
section RZO
variable {ρ : Type} {lv Q : Nat} {S s : ev_St}
def Zt (lv : Nat) (S T : ev_St) : Prop := (T.1 621 28).toNat = lv ∧ ∀ i, i ≠ lv → T.1 645 i = S.1 645 i
def zo (lv : Nat) (S : ev_St) (R : Option (ρ × ev_St)) : Prop := ∀ r T, R = some (r, T) → Zt lv S T
theorem zo_none : zo (ρ := ρ) lv S none := fun r T h => by cases h
theorem zo_some {r : ρ} (h : Zt lv S s) : zo lv S (some (r, s)) := fun r' T e => by
  cases e
  exact h
theorem zo_b0 {α : Type} {a : α} {G : α → Option (ρ × ev_St)} (g : ∀ x, zo lv S (G x)) : zo lv S (ev_b a G) := g a
theorem zo_bI {k f : Nat} {x : Int} {G : ev_St → Option (ρ × ev_St)} (h : Zt lv S s) (w : k ≠ 645 ∧ ¬ (k = 621 ∧ f = 28)) (g : ∀ t, Zt lv S t → zo lv S (G t)) : zo lv S (ev_b (ev_pI s k f x) G) := g _ ⟨by rw [sp_pI1, if_neg (by omega)]; exact h.1, fun i hi => by rw [sp_pI1, if_neg (by omega)]; exact h.2 i hi⟩
theorem zo_bL {k f : Nat} {x : Int64} {G : ev_St → Option (ρ × ev_St)} (h : Zt lv S s) (g : ∀ t, Zt lv S t → zo lv S (G t)) : zo lv S (ev_b (ev_pL s k f x) G) := g _ h
theorem zo_ck {e : Int} {G : Int → Option (ρ × ev_St)} (g : ∀ x, zo lv S (G x)) : zo lv S (ev_ck e G) := by
  unfold ev_ck
  split
  · exact g e
  · exact zo_none
theorem zo_if {c : Prop} [Decidable c] {J : Option (ρ × ev_St)} (g : zo lv S J) : zo lv S (ev_if c J) := by
  unfold ev_if
  split
  · exact g
  · exact zo_none
theorem zo_ite {c : Prop} [Decidable c] {A B : Option (ρ × ev_St)} (g : zo lv S A) (k : zo lv S B) : zo lv S (if c then A else B) := by
  split
  · exact g
  · exact k
theorem zo_bd {γ : Type} {X : Option (γ × ev_St)} {K : γ → ev_St → Option (ρ × ev_St)} (h : Zt lv S s) (m : zo lv s X) (k : ∀ r t, Zt lv S t → zo lv S (K r t)) : zo lv S (ev_bd X K) := by
  cases X with
  | none => exact zo_none
  | some z =>
    have q := m z.1 z.2 rfl
    exact k z.1 z.2 ⟨q.1, fun i hi => (q.2 i hi).trans (h.2 i hi)⟩
theorem zo_ef {L : List (Nat × Nat × Nat)} {X : Option (ρ × ev_St)} (h : Zt lv S s) (w1 : ∀ i, wm L 0 645 i = false) (w2 : wm L 0 621 28 = false) (m : efo L s X) : zo lv s X := fun r T e => ⟨by rw [(m r T e).1 621 28 w2]; exact h.1, fun i _ => (m r T e).1 645 i (w1 i)⟩
theorem zo_234 {a : Int} (h : Zt lv S s) : zo lv s (jm_234 Q a s) := by
  intro r T e
  unfold jm_234 at e
  have q : ∀ (c : Prop) [Decidable c] (J : Option (Unit × ev_St)) (r : Unit) (T : ev_St), ev_if c J = some (r, T) → J = some (r, T) := fun c _ J r T h => by
    unfold ev_if at h
    split at h
    · exact h
    · cases h
  have q2 : ∀ (x : Int) (G : Int → Option (Unit × ev_St)) (r : Unit) (T : ev_St), ev_ck x G = some (r, T) → G x = some (r, T) := fun x G r T h => by
    unfold ev_ck at h
    split at h
    · exact h
    · cases h
  rw [sp_b] at e
  have e := q _ _ _ _ e
  rw [sp_b] at e
  have e := q _ _ _ _ (q2 _ _ _ _ e)
  rw [sp_b] at e
  obtain rfl := (Prod.mk.inj (Option.some.inj e)).2
  refine ⟨?_, fun i hi => ?_⟩
  · rw [rd_nk (by omega)]
    exact h.1
  · rw [rd_nf (by rw [h.1]; exact hi)]
theorem zo_233 {a : Int} (h : Zt lv S s) : zo lv s (jm_233 Q a s) := zo_ef h (fun i => rfl) rfl ef_233
theorem zo_250 {a : Int} (h : Zt lv S s) : zo lv s (jm_250 Q a s) := zo_ef h (fun i => rfl) rfl ef_250
theorem zo_251 {a : Int} (h : Zt lv S s) : zo lv s (jm_251 Q a s) := zo_ef h (fun i => rfl) rfl ef_251
theorem zo_248 {a : Int} (h : Zt lv S s) : zo lv s (jm_248 Q a s) := zo_ef h (fun i => rfl) rfl ef_248
theorem zo_245 {a b c : Int} (h : Zt lv S s) : zo lv s (jm_245 Q a b c s) := zo_ef h (fun i => rfl) rfl ef_245
theorem zo_249 {a : Int} (h : Zt lv S s) : zo lv s (jm_249 Q a s) := zo_ef h (fun i => rfl) rfl ef_249
theorem zo_247 {a : Int} (h : Zt lv S s) : zo lv s (jm_247 Q a s) := zo_ef h (fun i => rfl) rfl ef_247
theorem zo_246 {a : Int} (h : Zt lv S s) : zo lv s (jm_246 Q a s) := zo_ef h (fun i => rfl) rfl ef_246
theorem zo_252 {a : Int} (h : Zt lv S s) : zo lv s (jm_252 Q a s) := by
  have hs : Zt lv s s := ⟨h.1, fun _ _ => rfl⟩
  unfold jm_252
  simp only [sp_jn]
  (repeat' (first | with_reducible exact zo_none | with_reducible exact zo_some (by assumption) | with_reducible exact zo_234 (by assumption) | with_reducible exact zo_233 (by assumption) | with_reducible exact zo_250 (by assumption) | with_reducible exact zo_251 (by assumption) | with_reducible exact zo_248 (by assumption) | with_reducible exact zo_245 (by assumption) | with_reducible exact zo_249 (by assumption) | with_reducible exact zo_247 (by assumption) | with_reducible exact zo_246 (by assumption) | with_reducible refine zo_bd (by assumption) ?_ (fun _ _ _ => ?_) | with_reducible refine zo_bI (by assumption) (by omega) (fun _ _ => ?_) | with_reducible refine zo_bL (by assumption) (fun _ _ => ?_) | with_reducible refine zo_ck (fun _ => ?_) | with_reducible refine zo_if ?_ | with_reducible refine zo_ite ?_ ?_ | with_reducible refine zo_b0 (fun _ => ?_)))
theorem zo_b253 {K : Int → ev_St → Option (Unit × ev_St)} {x : Int} (hK : ∀ x t, Zt lv S t → zo lv S (K x t)) (h : Zt lv S s) : zo lv S (jb_253_7 Q K x s) := by
  unfold jb_253_7
  simp only [sp_jn]
  (repeat' (first | with_reducible exact zo_none | with_reducible exact zo_some (by assumption) | with_reducible exact zo_234 (by assumption) | with_reducible exact zo_233 (by assumption) | with_reducible exact zo_250 (by assumption) | with_reducible exact zo_251 (by assumption) | with_reducible exact zo_248 (by assumption) | with_reducible exact zo_245 (by assumption) | with_reducible exact zo_249 (by assumption) | with_reducible exact zo_247 (by assumption) | with_reducible exact zo_246 (by assumption) | with_reducible exact zo_252 (by assumption) | with_reducible exact hK _ _ (by assumption) | with_reducible refine zo_bd (by assumption) ?_ (fun _ _ _ => ?_) | with_reducible refine zo_bI (by assumption) (by omega) (fun _ _ => ?_) | with_reducible refine zo_bL (by assumption) (fun _ _ => ?_) | with_reducible refine zo_ck (fun _ => ?_) | with_reducible refine zo_if ?_ | with_reducible refine zo_ite ?_ ?_ | with_reducible refine zo_b0 (fun _ => ?_)))
theorem zo_l253 : ∀ (q : Nat) (x : Int) (s : ev_St), Zt lv S s → zo lv S (jl_253_7 Q q x s)
  | 0, _, _, _ => zo_none
  | q + 1, x, s, h => zo_b253 (fun x t ht => zo_l253 q x t ht) h
/-- a class moves the inmost text's spot alone -/
theorem zo_253 (h : (S.1 621 28).toNat = lv) {T : ev_St} (e : jm_253 Q S = some ((), T)) : ∀ i, i ≠ lv → T.1 645 i = S.1 645 i := by
  have hs : Zt lv S S := ⟨h, fun _ _ => rfl⟩
  have q : zo lv S (jm_253 Q S) := by
    unfold jm_253
    exact zo_bd hs (zo_252 hs) (fun _ t ht => zo_l253 Q 0 t ht)
  exact (q _ _ e).2
end RZO
