/-! WHAT EACH METHOD MAY WRITE, laid by gen_eff.py: kind (0 ints, 1 longs, 2 references), cell, place (999999: any) -/
def wm (L : List (Nat × Nat × Nat)) (q c f : Nat) : Bool := L.any (fun x => Nat.beq x.1 q && (Nat.beq x.2.1 c && (Nat.beq x.2.2 999999 || Nat.beq x.2.2 f)))
def wsub (L M : List (Nat × Nat × Nat)) : Bool := L.all (fun x => wm M x.1 x.2.1 x.2.2)
def ef (L : List (Nat × Nat × Nat)) (S T : ev_St) : Prop := (∀ c f, wm L 0 c f = false → T.1 c f = S.1 c f) ∧ (∀ c f, wm L 1 c f = false → T.2.1 c f = S.2.1 c f) ∧ (∀ c f, wm L 2 c f = false → T.2.2.1 c f = S.2.2.1 c f) ∧ T.2.2.2 = S.2.2.2
def efo {ρ : Type} (L : List (Nat × Nat × Nat)) (S : ev_St) (R : Option (ρ × ev_St)) : Prop := ∀ r T, R = some (r, T) → ef L S T
theorem ef_rfl {L : List (Nat × Nat × Nat)} {S : ev_St} : ef L S S := ⟨fun _ _ _ => rfl, fun _ _ _ => rfl, fun _ _ _ => rfl, rfl⟩
theorem wsub_ok {L M : List (Nat × Nat × Nat)} (h : wsub L M = true) {q c f : Nat} (hf : wm M q c f = false) : wm L q c f = false := by
  cases e : wm L q c f with
  | false => rfl
  | true =>
    exfalso
    obtain ⟨x, hx, e1⟩ := List.any_eq_true.mp e
    have e2 := List.all_eq_true.mp h x hx
    obtain ⟨y, hy, e3⟩ := List.any_eq_true.mp e2
    simp only [Bool.and_eq_true, Bool.or_eq_true, Nat.beq_eq] at e1 e3
    have e4 : wm M q c f = true := by
      refine List.any_eq_true.mpr ⟨y, hy, ?_⟩
      simp only [Bool.and_eq_true, Bool.or_eq_true, Nat.beq_eq]
      omega
    rw [e4] at hf
    cases hf
theorem ef_tr {L M : List (Nat × Nat × Nat)} {S s t : ev_St} (h : ef L S s) (w : wsub M L = true) (k : ef M s t) : ef L S t := ⟨fun c f q => (k.1 c f (wsub_ok w q)).trans (h.1 c f q), fun c f q => (k.2.1 c f (wsub_ok w q)).trans (h.2.1 c f q), fun c f q => (k.2.2.1 c f (wsub_ok w q)).trans (h.2.2.1 c f q), k.2.2.2.trans h.2.2.2⟩
theorem ef_w {L M : List (Nat × Nat × Nat)} {s t : ev_St} (w : wsub M L = true) (k : ef M s t) : ef L s t := ef_tr ef_rfl w k
theorem ef_ne {L : List (Nat × Nat × Nat)} {q k f a b : Nat} (w : wm L q k f = true) (h : wm L q a b = false) : ¬ (a = k ∧ b = f) := fun e => by
  rw [e.1, e.2, w] at h
  cases h
theorem ef_pI {L : List (Nat × Nat × Nat)} {S s : ev_St} {k f : Nat} {x : Int} (h : ef L S s) (w : wm L 0 k f = true) : ef L S (ev_pI s k f x) := ⟨fun c g q => (if_neg (ef_ne w q)).trans (h.1 c g q), h.2⟩
theorem ef_pL {L : List (Nat × Nat × Nat)} {S s : ev_St} {k f : Nat} {x : Int64} (h : ef L S s) (w : wm L 1 k f = true) : ef L S (ev_pL s k f x) := ⟨h.1, fun c g q => (if_neg (ef_ne w q)).trans (h.2.1 c g q), h.2.2⟩
theorem ef_pR {L : List (Nat × Nat × Nat)} {S s : ev_St} {k f : Nat} {x : Nat} (h : ef L S s) (w : wm L 2 k f = true) : ef L S (ev_pR s k f x) := ⟨h.1, h.2.1, fun c g q => (if_neg (ef_ne w q)).trans (h.2.2.1 c g q), h.2.2.2⟩
section EF
variable {ρ : Type} {L : List (Nat × Nat × Nat)} {S s : ev_St}
theorem efo_none : efo (ρ := ρ) L S none := fun r T h => by cases h
theorem efo_some {r : ρ} (h : ef L S s) : efo L S (some (r, s)) := fun r' T e => by
  cases e
  exact h
theorem efo_b0 {α : Type} {a : α} {G : α → Option (ρ × ev_St)} (g : ∀ x, efo L S (G x)) : efo L S (ev_b a G) := g a
theorem efo_bI {k f : Nat} {x : Int} {G : ev_St → Option (ρ × ev_St)} (h : ef L S s) (w : wm L 0 k f = true) (g : ∀ t, ef L S t → efo L S (G t)) : efo L S (ev_b (ev_pI s k f x) G) := g _ (ef_pI h w)
theorem efo_bL {k f : Nat} {x : Int64} {G : ev_St → Option (ρ × ev_St)} (h : ef L S s) (w : wm L 1 k f = true) (g : ∀ t, ef L S t → efo L S (G t)) : efo L S (ev_b (ev_pL s k f x) G) := g _ (ef_pL h w)
theorem efo_bR {k f : Nat} {x : Nat} {G : ev_St → Option (ρ × ev_St)} (h : ef L S s) (w : wm L 2 k f = true) (g : ∀ t, ef L S t → efo L S (G t)) : efo L S (ev_b (ev_pR s k f x) G) := g _ (ef_pR h w)
theorem efo_ck {e : Int} {G : Int → Option (ρ × ev_St)} (g : ∀ x, efo L S (G x)) : efo L S (ev_ck e G) := by
  unfold ev_ck
  split
  · exact g e
  · exact efo_none
theorem efo_if {c : Prop} [Decidable c] {J : Option (ρ × ev_St)} (g : efo L S J) : efo L S (ev_if c J) := by
  unfold ev_if
  split
  · exact g
  · exact efo_none
theorem efo_ite {c : Prop} [Decidable c] {A B : Option (ρ × ev_St)} (g : efo L S A) (k : efo L S B) : efo L S (if c then A else B) := by
  split
  · exact g
  · exact k
theorem efo_bd2 {γ : Type} {X : Option (γ × ev_St)} {K : γ → ev_St → Option (ρ × ev_St)} (h : efo L S X) (k : ∀ r t, ef L S t → efo L S (K r t)) : efo L S (ev_bd X K) := by
  cases X with
  | none => exact efo_none
  | some z => exact k z.1 z.2 (h z.1 z.2 rfl)
theorem efo_up {M : List (Nat × Nat × Nat)} {X : Option (ρ × ev_St)} (h : ef L S s) (w : wsub M L = true) (m : efo M s X) : efo L S X := fun r T e => ef_tr h w (m r T e)
theorem efo_bd {γ : Type} {M : List (Nat × Nat × Nat)} {X : Option (γ × ev_St)} {K : γ → ev_St → Option (ρ × ev_St)} (h : ef L S s) (w : wsub M L = true) (m : efo M s X) (k : ∀ r t, ef L S t → efo L S (K r t)) : efo L S (ev_bd X K) := efo_bd2 (efo_up h w m) k
theorem efo_jn {γ : Type} {t : γ} {f : γ → Option (ρ × ev_St)} (P : γ → Prop) (h1 : P t) (h2 : ∀ K, P K → efo L S (f K)) : efo L S (ev_jn t f) := h2 t h1
end EF
def wl_1 : List (Nat × Nat × Nat) := []
theorem ef_1 {Q : Nat} {a0 : Int} {S : ev_St} : efo wl_1 S (jm_1 Q a0 S) := by
  unfold jm_1
  exact (efo_ite (efo_some (ef_rfl)) (efo_ite (efo_some (ef_rfl)) (efo_if (efo_b0 (fun _ => (efo_some (ef_rfl)))))))
def wl_2 : List (Nat × Nat × Nat) := [(0, 256, 999999), (0, 258, 999999), (0, 257, 999999), (0, 254, 4)]
theorem ef_2 {Q : Nat} {a0 : Int} {a1 : Int} {a2 : Int} {S : ev_St} : efo wl_2 S (jm_2 Q a0 a1 a2 S) := by
  unfold jm_2
  exact (efo_b0 (fun x1 => (efo_ite (efo_some (ef_rfl)) (efo_b0 (fun x3 => (efo_ite (efo_b0 (fun x5 => (efo_if (efo_bI (ef_rfl) rfl (fun s6 h_s6 => (efo_b0 (fun x7 => (efo_if (efo_bI h_s6 rfl (fun s8 h_s8 => (efo_b0 (fun x9 => (efo_if (efo_if (efo_bI h_s8 rfl (fun s10 h_s10 => (efo_b0 (fun x12 => (efo_ck (fun x13 => (efo_bI h_s10 rfl (fun s14 h_s14 => (efo_b0 (fun x15 => (efo_ck (fun x16 => (efo_some h_s14))))))))))))))))))))))))))) (efo_some (ef_rfl))))))))
def wl_3 : List (Nat × Nat × Nat) := [(0, 261, 999999), (0, 254, 11), (0, 254, 12), (0, 254, 13)]
theorem ef_3 {Q : Nat} {S : ev_St} : efo wl_3 S (jm_3 Q S) := by
  unfold jm_3
  exact (efo_b0 (fun x1 => (efo_ite (efo_some (ef_rfl)) (efo_b0 (fun x3 => (efo_ite (efo_some (ef_rfl)) (efo_b0 (fun x5 => (efo_ite (efo_some (ef_rfl)) (efo_b0 (fun x7 => (efo_ite (efo_b0 (fun x9 => (efo_b0 (fun x10 => (efo_if (efo_bI (ef_rfl) rfl (fun s11 h_s11 => (efo_bI h_s11 rfl (fun s12 h_s12 => (efo_b0 (fun x13 => (efo_ck (fun x14 => (efo_bI h_s12 rfl (fun s15 h_s15 => (efo_b0 (fun x16 => (efo_bI h_s15 rfl (fun s17 h_s17 => (efo_some h_s17)))))))))))))))))))) (efo_some (ef_rfl))))))))))))))
def wl_11 : List (Nat × Nat × Nat) := []
theorem ef_11 {Q : Nat} {a0 : Int} {S : ev_St} : efo wl_11 S (jm_11 Q a0 S) := by
  unfold jm_11
  exact (efo_b0 (fun x1 => (efo_ite (efo_some (ef_rfl)) (efo_b0 (fun x3 => (efo_ck (fun x4 => (efo_ite (efo_some (ef_rfl)) (efo_b0 (fun x6 => (efo_ite (efo_some (ef_rfl)) (efo_some (ef_rfl)))))))))))))
def wl_12 : List (Nat × Nat × Nat) := [(0, 254, 9), (0, 254, 10), (0, 254, 11), (0, 254, 12), (0, 254, 13)]
theorem ef_12 {Q : Nat} {S : ev_St} : efo wl_12 S (jm_12 Q S) := by
  unfold jm_12
  exact (efo_bI (ef_rfl) rfl (fun s1 h_s1 => (efo_bI h_s1 rfl (fun s2 h_s2 => (efo_bI h_s2 rfl (fun s3 h_s3 => (efo_bI h_s3 rfl (fun s4 h_s4 => (efo_bI h_s4 rfl (fun s5 h_s5 => (efo_some h_s5)))))))))))
def wl_151 : List (Nat × Nat × Nat) := []
theorem ef_151 {Q : Nat} {k : Nat} {a0 : Int} {S : ev_St} : efo wl_151 S (jm_151 Q k a0 S) := by
  unfold jm_151
  exact (efo_ite (efo_some (ef_rfl)) (efo_b0 (fun x2 => (efo_ite (efo_some (ef_rfl)) (efo_ite (efo_some (ef_rfl)) (efo_if (efo_b0 (fun x5 => (efo_some (ef_rfl))))))))))
def wl_14 : List (Nat × Nat × Nat) := []
theorem ef_14 {Q : Nat} {a0 : Int} {S : ev_St} : efo wl_14 S (jm_14 Q a0 S) := by
  unfold jm_14
  exact (efo_ite (efo_ite (efo_some (ef_rfl)) efo_none) (efo_if (efo_b0 (fun x3 => (efo_ite (efo_ite (efo_some (ef_rfl)) efo_none) (efo_if (efo_b0 (fun x6 => (efo_if (efo_b0 (fun r7 => (efo_ite (efo_some (ef_rfl)) (efo_if (efo_b0 (fun x9 => (efo_if (efo_b0 (fun x10 => (efo_some (ef_rfl))))))))))))))))))))
def wl_16 : List (Nat × Nat × Nat) := []
theorem ef_16 {Q : Nat} {a0 : Int} {S : ev_St} : efo wl_16 S (jm_16 Q a0 S) := by
  unfold jm_16
  exact (efo_ite (efo_ite (efo_some (ef_rfl)) efo_none) (efo_if (efo_b0 (fun x3 => (efo_ite (efo_ite (efo_some (ef_rfl)) efo_none) (efo_if (efo_b0 (fun x6 => (efo_if (efo_b0 (fun r7 => (efo_ite (efo_some (ef_rfl)) (efo_if (efo_b0 (fun x9 => (efo_if (efo_b0 (fun x10 => (efo_some (ef_rfl))))))))))))))))))))
def wl_10 : List (Nat × Nat × Nat) := [(0, 258, 999999)]
theorem efb_10_3 {Q : Nat} {a0 : Int} {a1 : Int} {a2 : Int} {a3 : Int} {K3 : Int → ev_St → Option ((Unit) × ev_St)} {S : ev_St}  (h_K3 : ∀ (x1 : Int) (s9 : ev_St), ef wl_10 S s9 → efo wl_10 S (K3 x1 s9)) : ∀ (x1 : Int) (s9 : ev_St), ef wl_10 S s9 → efo wl_10 S (jb_10_3 Q a0 a1 a2 a3 K3 x1 s9) := fun x1 s9 h_s9 => by
  unfold jb_10_3
  exact (efo_b0 (fun x10 => (efo_ite (efo_some h_s9) (efo_ite (efo_some h_s9) (efo_if (efo_b0 (fun x13 => (efo_jn (fun K55 => ∀ (x14 : Int) (x15 : Int) (s24 : ev_St), ef wl_10 S s24 → efo wl_10 S (K55 x14 x15 s24)) (fun x14 x15 s24  h_s24 => (efo_if (efo_b0 (fun x25 => (efo_jn (fun K126 => ∀ (s33 : ev_St), ef wl_10 S s33 → efo wl_10 S (K126 s33)) (fun s33  h_s33 => (efo_ck (fun x34 => (h_K3 _ _ h_s33)))) (fun K126 h_K126 => (efo_ite (h_K126 _  h_s24) (efo_ite (efo_ite (efo_if (efo_b0 (fun x38 => (efo_jn (fun K125 => ∀ (x41 : Int) (x40 : Int) (r39 : Nat) (s49 : ev_St), r39 = 258 → ef wl_10 S s49 → efo wl_10 S (K125 x41 x40 r39 s49)) (fun x41 x40 r39 s49 q_r39 h_s49 => (by subst q_r39; exact (efo_if (efo_bI h_s49 rfl (fun s50 h_s50 => (h_K126 _  h_s50)))))) (fun K125 h_K125 => (efo_ite (h_K125 _ _ _ _ rfl h_s24) (efo_ck (fun x52 => (h_K125 _ _ _ _ rfl h_s24))))))))) (efo_ck (fun x53 => (efo_ck (fun x54 => (efo_ck (fun x55 => (efo_if (efo_bI h_s24 rfl (fun s56 h_s56 => (h_K126 _  h_s56))))))))))) (h_K126 _  h_s24))))))))) (fun K55 h_K55 => (efo_jn (fun K50 => ∀ (x57 : Int) (s66 : ev_St), ef wl_10 S s66 → efo wl_10 S (K50 x57 s66)) (fun x57 s66  h_s66 => (h_K55 _ _ _  h_s66)) (fun K50 h_K50 => (efo_ite (h_K50 _ _  h_s9) (efo_jn (fun K54 => ∀ (s76 : ev_St), ef wl_10 S s76 → efo wl_10 S (K54 s76)) (fun s76  h_s76 => (h_K55 _ _ _  h_s76)) (fun K54 h_K54 => (efo_ite (h_K54 _  h_s9) (efo_if (efo_b0 (fun x78 => (efo_ite (h_K54 _  h_s9) (h_K50 _ _  h_s9))))))))))))))))))))
theorem efl_10_3 {Q : Nat} {a0 : Int} {a1 : Int} {a2 : Int} {a3 : Int} {S : ev_St}  : ∀ (q : Nat) (x1 : Int) (s9 : ev_St), ef wl_10 S s9 → efo wl_10 S (jl_10_3 Q a0 a1 a2 a3 q x1 s9)
  | 0, _, _, _ => efo_none
  | q + 1, x1, s9, h_s9 => efb_10_3  (efl_10_3  q) x1 s9 h_s9
theorem ef_10 {Q : Nat} {a0 : Int} {a1 : Int} {a2 : Int} {a3 : Int} {S : ev_St} : efo wl_10 S (jm_10 Q a0 a1 a2 a3 S) := by
  unfold jm_10
  exact (efl_10_3  _ _ _ (ef_rfl))
def wl_20 : List (Nat × Nat × Nat) := [(1, 9, 999999), (1, 10, 999999), (0, 11, 999999)]
theorem ef_20 {Q : Nat} {S : ev_St} : efo wl_20 S (jm_20 Q S) := by
  unfold jm_20
  exact (efo_b0 (fun x1 => (efo_ite (efo_some (ef_rfl)) (efo_b0 (fun x3 => (efo_ite (efo_some (ef_rfl)) (efo_b0 (fun x5 => (efo_if (efo_bL (ef_rfl) rfl (fun s6 h_s6 => (efo_b0 (fun x7 => (efo_if (efo_bL h_s6 rfl (fun s8 h_s8 => (efo_b0 (fun x9 => (efo_if (efo_bI h_s8 rfl (fun s10 h_s10 => (efo_some h_s10))))))))))))))))))))))
def wl_19 : List (Nat × Nat × Nat) := [(0, 6, 7), (1, 7, 999999), (1, 8, 999999), (0, 13, 999999), (1, 9, 999999), (1, 10, 999999), (0, 11, 999999), (0, 12, 999999), (0, 6, 9)]
theorem ef_19 {Q : Nat} {S : ev_St} : efo wl_19 S (jm_19 Q S) := by
  unfold jm_19
  exact (efo_b0 (fun x1 => (efo_ck (fun x2 => (efo_ite (efo_some (ef_rfl)) (efo_b0 (fun x4 => (efo_ck (fun x5 => (efo_ite (efo_b0 (fun x7 => (efo_ck (fun x8 => (efo_bI (ef_rfl) rfl (fun s9 h_s9 => (efo_b0 (fun x10 => (efo_if (efo_bL h_s9 rfl (fun s11 h_s11 => (efo_b0 (fun x12 => (efo_if (efo_bL h_s11 rfl (fun s13 h_s13 => (efo_b0 (fun x14 => (efo_if (efo_bI h_s13 rfl (fun s15 h_s15 => (efo_bd h_s15 (by decide +kernel) ef_20 (fun _ s16 h_s16 => (efo_b0 (fun x17 => (efo_b0 (fun r18 => (efo_b0 (fun x19 => (efo_if (efo_bd h_s16 (by decide +kernel) ef_151 (fun x22 s21 h_s21 => (efo_jn (fun K96 => ∀ (x25 : Int) (x24 : Int) (r23 : Nat) (s28 : ev_St), r23 = 12 → ef wl_19 S s28 → efo wl_19 S (K96 x25 x24 r23 s28)) (fun x25 x24 r23 s28 q_r23 h_s28 => (by subst q_r23; exact (efo_if (efo_if (efo_bI h_s28 rfl (fun s29 h_s29 => (efo_b0 (fun x31 => (efo_if (efo_b0 (fun x32 => (efo_ite (efo_some h_s29) (efo_b0 (fun x34 => (efo_ck (fun x35 => (efo_bI h_s29 rfl (fun s36 h_s36 => (efo_some h_s36))))))))))))))))))) (fun K96 h_K96 => (efo_ite (h_K96 _ _ _ _ rfl h_s21) (h_K96 _ _ _ _ rfl h_s21)))))))))))))))))))))))))))))))))))) (efo_some (ef_rfl))))))))))))
def wl_24 : List (Nat × Nat × Nat) := [(1, 7, 999999), (1, 8, 999999)]
theorem ef_24 {Q : Nat} {S : ev_St} : efo wl_24 S (jm_24 Q S) := by
  unfold jm_24
  exact (efo_b0 (fun x1 => (efo_ite (efo_some (ef_rfl)) (efo_b0 (fun x3 => (efo_ite (efo_some (ef_rfl)) (efo_b0 (fun x5 => (efo_if (efo_b0 (fun x6 => (efo_ite (efo_b0 (fun x8 => (efo_if (efo_b0 (fun x9 => (efo_ite (efo_b0 (fun x11 => (efo_if (efo_b0 (fun x12 => (efo_ite (efo_b0 (fun x14 => (efo_b0 (fun x15 => (efo_if (efo_b0 (fun y16 => (efo_if (efo_bL (ef_rfl) rfl (fun s17 h_s17 => (efo_b0 (fun x18 => (efo_b0 (fun x19 => (efo_if (efo_b0 (fun y20 => (efo_if (efo_bL h_s17 rfl (fun s21 h_s21 => (efo_some h_s21))))))))))))))))))))) (efo_b0 (fun x22 => (efo_if (efo_b0 (fun y23 => (efo_b0 (fun x24 => (efo_if (efo_b0 (fun y25 => (efo_b0 (fun y26 => (efo_b0 (fun y27 => (efo_if (efo_bL (ef_rfl) rfl (fun s28 h_s28 => (efo_b0 (fun x29 => (efo_if (efo_b0 (fun y30 => (efo_b0 (fun x31 => (efo_if (efo_b0 (fun y32 => (efo_b0 (fun y33 => (efo_b0 (fun y34 => (efo_if (efo_bL h_s28 rfl (fun s35 h_s35 => (efo_some h_s35))))))))))))))))))))))))))))))))))))))))) (efo_b0 (fun x36 => (efo_if (efo_b0 (fun y37 => (efo_b0 (fun x38 => (efo_if (efo_b0 (fun y39 => (efo_b0 (fun y40 => (efo_if (efo_bL (ef_rfl) rfl (fun s41 h_s41 => (efo_b0 (fun x42 => (efo_if (efo_b0 (fun y43 => (efo_b0 (fun x44 => (efo_if (efo_b0 (fun y45 => (efo_b0 (fun y46 => (efo_if (efo_bL h_s41 rfl (fun s47 h_s47 => (efo_some h_s47))))))))))))))))))))))))))))))))))))) (efo_some (ef_rfl))))))))))))))
def wl_22 : List (Nat × Nat × Nat) := [(1, 9, 999999), (1, 10, 999999), (0, 11, 999999)]
theorem ef_22 {Q : Nat} {a0 : Int64} {a1 : Int64} {S : ev_St} : efo wl_22 S (jm_22 Q a0 a1 S) := by
  unfold jm_22
  exact (efo_b0 (fun x1 => (efo_ite (efo_some (ef_rfl)) (efo_b0 (fun x3 => (efo_ite (efo_b0 (fun x5 => (efo_if (efo_b0 (fun y6 => (efo_b0 (fun y7 => (efo_if (efo_bL (ef_rfl) rfl (fun s8 h_s8 => (efo_b0 (fun x9 => (efo_if (efo_b0 (fun y10 => (efo_b0 (fun y11 => (efo_if (efo_bL h_s8 rfl (fun s12 h_s12 => (efo_b0 (fun x13 => (efo_if (efo_bI h_s12 rfl (fun s14 h_s14 => (efo_some h_s14)))))))))))))))))))))))))) (efo_some (ef_rfl))))))))
def wl_25 : List (Nat × Nat × Nat) := [(1, 7, 999999), (1, 8, 999999), (1, 6, 11), (1, 6, 12), (0, 6, 7), (1, 9, 999999), (1, 10, 999999), (0, 11, 999999)]
theorem ef_25 {Q : Nat} {S : ev_St} : efo wl_25 S (jm_25 Q S) := by
  unfold jm_25
  exact (efo_bd (ef_rfl) (by decide +kernel) ef_24 (fun x2 s1 h_s1 => (efo_ite (efo_b0 (fun x4 => (efo_if (efo_b0 (fun x5 => (efo_jn (fun K51 => ∀ (y6 : Int64) (s9 : ev_St), ef wl_25 S s9 → efo wl_25 S (K51 y6 s9)) (fun y6 s9  h_s9 => (efo_bL h_s9 rfl (fun s10 h_s10 => (efo_b0 (fun x11 => (efo_if (efo_b0 (fun x12 => (efo_jn (fun K96 => ∀ (y13 : Int64) (s16 : ev_St), ef wl_25 S s16 → efo wl_25 S (K96 y13 s16)) (fun y13 s16  h_s16 => (efo_bL h_s16 rfl (fun s17 h_s17 => (efo_b0 (fun x18 => (efo_ck (fun x19 => (efo_bI h_s17 rfl (fun s20 h_s20 => (efo_b0 (fun x21 => (efo_ite (efo_some h_s20) (efo_b0 (fun y23 => (efo_b0 (fun y24 => (efo_bd h_s20 (by decide +kernel) ef_22 (fun x26 s25 h_s25 => (efo_ite (efo_some h_s25) (efo_some h_s25)))))))))))))))))))) (fun K96 h_K96 => (efo_ite (efo_b0 (fun x29 => (efo_if (efo_b0 (fun y30 => (h_K96 _ _  h_s10)))))) (efo_b0 (fun x31 => (efo_if (efo_b0 (fun y32 => (efo_b0 (fun y33 => (efo_b0 (fun y34 => (h_K96 _ _  h_s10))))))))))))))))))))) (fun K51 h_K51 => (efo_ite (efo_b0 (fun x36 => (efo_if (efo_b0 (fun y37 => (h_K51 _ _  h_s1)))))) (efo_b0 (fun x38 => (efo_if (efo_b0 (fun y39 => (efo_b0 (fun y40 => (efo_b0 (fun y41 => (h_K51 _ _  h_s1)))))))))))))))))) (efo_some h_s1))))
def wl_23 : List (Nat × Nat × Nat) := [(1, 7, 999999), (1, 8, 999999), (0, 13, 999999), (1, 9, 999999), (1, 10, 999999), (0, 11, 999999)]
theorem ef_23 {Q : Nat} {a0 : Int} {S : ev_St} : efo wl_23 S (jm_23 Q a0 S) := by
  unfold jm_23
  exact (efo_bd (ef_rfl) (by decide +kernel) ef_24 (fun x2 s1 h_s1 => (efo_ite (efo_b0 (fun x4 => (efo_if (efo_bI h_s1 rfl (fun s5 h_s5 => (efo_bd h_s5 (by decide +kernel) ef_20 (fun _ s6 h_s6 => (efo_some h_s6)))))))) (efo_some h_s1))))
def wl_216 : List (Nat × Nat × Nat) := []
theorem ef_216 {Q : Nat} {a0 : Int} {S : ev_St} : efo wl_216 S (jm_216 Q a0 S) := by
  unfold jm_216
  exact (efo_ite (efo_some (ef_rfl)) (efo_ite (efo_some (ef_rfl)) (efo_ite (efo_some (ef_rfl)) (efo_ite (efo_some (ef_rfl)) (efo_ite (efo_some (ef_rfl)) (efo_ite (efo_some (ef_rfl)) (efo_some (ef_rfl))))))))
def wl_217 : List (Nat × Nat × Nat) := []
theorem ef_217 {Q : Nat} {a0 : Int} {S : ev_St} : efo wl_217 S (jm_217 Q a0 S) := by
  unfold jm_217
  exact (efo_ite (efo_some (ef_rfl)) (efo_ite (efo_some (ef_rfl)) (efo_ite (efo_some (ef_rfl)) (efo_some (ef_rfl)))))
def wl_218 : List (Nat × Nat × Nat) := []
theorem ef_218 {Q : Nat} {a0 : Int} {S : ev_St} : efo wl_218 S (jm_218 Q a0 S) := by
  unfold jm_218
  exact (efo_ite (efo_some (ef_rfl)) (efo_ite (efo_some (ef_rfl)) (efo_ite (efo_some (ef_rfl)) (efo_some (ef_rfl)))))
def wl_211 : List (Nat × Nat × Nat) := []
theorem ef_211 {Q : Nat} {a0 : Int} {S : ev_St} : efo wl_211 S (jm_211 Q a0 S) := by
  unfold jm_211
  exact (efo_jn (fun K12 => ∀ (s3 : ev_St), ef wl_211 S s3 → efo wl_211 S (K12 s3)) (fun s3  h_s3 => (efo_jn (fun K24 => ∀ (s6 : ev_St), ef wl_211 S s6 → efo wl_211 S (K24 s6)) (fun s6  h_s6 => (efo_jn (fun K36 => ∀ (s9 : ev_St), ef wl_211 S s9 → efo wl_211 S (K36 s9)) (fun s9  h_s9 => (efo_ite (efo_some h_s9) (efo_ite (efo_some h_s9) (efo_some h_s9)))) (fun K36 h_K36 => (efo_ite (h_K36 _  h_s6) (efo_ite (efo_some h_s6) (h_K36 _  h_s6)))))) (fun K24 h_K24 => (efo_ite (h_K24 _  h_s3) (efo_ite (efo_some h_s3) (h_K24 _  h_s3)))))) (fun K12 h_K12 => (efo_ite (h_K12 _  (ef_rfl)) (efo_ite (efo_some (ef_rfl)) (h_K12 _  (ef_rfl))))))
def wl_27 : List (Nat × Nat × Nat) := [(0, 6, 9)]
theorem ef_27 {Q : Nat} {S : ev_St} : efo wl_27 S (jm_27 Q S) := by
  unfold jm_27
  exact (efo_b0 (fun r1 => (efo_b0 (fun x2 => (efo_if (efo_bd (ef_rfl) (by decide +kernel) ef_151 (fun x5 s4 h_s4 => (efo_b0 (fun r6 => (efo_b0 (fun x7 => (efo_ck (fun x8 => (efo_if (efo_bd h_s4 (by decide +kernel) ef_151 (fun x11 s10 h_s10 => (efo_ite (efo_some h_s10) (efo_ite (efo_some h_s10) (efo_ite (efo_some h_s10) (efo_jn (fun K58 => ∀ (s19 : ev_St), ef wl_27 S s19 → efo wl_27 S (K58 s19)) (fun s19  h_s19 => (efo_b0 (fun x20 => (efo_ck (fun x21 => (efo_bI h_s19 rfl (fun s22 h_s22 => (efo_ite (efo_b0 (fun x24 => (efo_ck (fun x25 => (efo_bI h_s22 rfl (fun s26 h_s26 => (efo_ite (efo_bd h_s26 (by decide +kernel) ef_211 (fun x29 s28 h_s28 => (efo_ite (efo_some h_s28) (efo_some h_s28)))) (efo_some h_s26)))))))) (efo_some h_s22))))))))) (fun K58 h_K58 => (efo_ite (h_K58 _  h_s10) (efo_ite (h_K58 _  h_s10) (efo_some h_s10))))))))))))))))))))))))
def wl_207 : List (Nat × Nat × Nat) := []
theorem ef_207 {Q : Nat} {a0 : Int} {S : ev_St} : efo wl_207 S (jm_207 Q a0 S) := by
  unfold jm_207
  exact (efo_ite (efo_some (ef_rfl)) (efo_ite (efo_some (ef_rfl)) (efo_ite (efo_some (ef_rfl)) (efo_some (ef_rfl)))))
def wl_215 : List (Nat × Nat × Nat) := []
theorem ef_215 {Q : Nat} {a0 : Int64} {S : ev_St} : efo wl_215 S (jm_215 Q a0 S) := by
  unfold jm_215
  exact (efo_b0 (fun y1 => (efo_b0 (fun y2 => (efo_b0 (fun y3 => (efo_b0 (fun y4 => (efo_b0 (fun y5 => (efo_b0 (fun y6 => (efo_some (ef_rfl))))))))))))))
def wl_26 : List (Nat × Nat × Nat) := [(0, 6, 9), (1, 9, 999999), (1, 10, 999999), (0, 11, 999999)]
theorem efb_26_79 {Q : Nat} {x4 : Int} {K79 : Int64 → Int64 → Int → ev_St → Option ((Int) × ev_St)} {S : ev_St}  (h_K79 : ∀ (y12 : Int64) (y13 : Int64) (x14 : Int) (s21 : ev_St), ef wl_26 S s21 → efo wl_26 S (K79 y12 y13 x14 s21)) : ∀ (y12 : Int64) (y13 : Int64) (x14 : Int) (s21 : ev_St), ef wl_26 S s21 → efo wl_26 S (jb_26_79 Q x4 K79 y12 y13 x14 s21) := fun y12 y13 x14 s21 h_s21 => by
  unfold jb_26_79
  exact (efo_jn (fun K148 => ∀ (s26 : ev_St), ef wl_26 S s26 → efo wl_26 S (K148 s26)) (fun s26  h_s26 => (efo_b0 (fun x27 => (efo_jn (fun K167 => ∀ (y29 : Int64) (y28 : Int64) (s31 : ev_St), ef wl_26 S s31 → efo wl_26 S (K167 y29 y28 s31)) (fun y29 y28 s31  h_s31 => (efo_bd h_s31 (by decide +kernel) ef_22 (fun x33 s32 h_s32 => (efo_if (efo_some h_s32))))) (fun K167 h_K167 => (efo_ite (h_K167 _ _ _  h_s26) (efo_bd h_s26 (by decide +kernel) ef_215 (fun y37 s36 h_s36 => (h_K167 _ _ _  h_s36))))))))) (fun K148 h_K148 => (efo_ite (h_K148 _  h_s21) (efo_ite (h_K148 _  h_s21) (efo_bd h_s21 (by decide +kernel) ef_207 (fun x41 s40 h_s40 => (efo_jn (fun K142 => ∀ (y42 : Int64) (y43 : Int64) (s50 : ev_St), ef wl_26 S s50 → efo wl_26 S (K142 y42 y43 s50)) (fun y42 y43 s50  h_s50 => (efo_ck (fun x51 => (h_K79 _ _ _ _ h_s50)))) (fun K142 h_K142 => (efo_ite (h_K142 _ _ _  h_s40) (efo_jn (fun K117 => ∀ (y54 : Int64) (y53 : Int64) (s60 : ev_St), ef wl_26 S s60 → efo wl_26 S (K117 y54 y53 s60)) (fun y54 y53 s60  h_s60 => (efo_b0 (fun y61 => (efo_jn (fun K139 => ∀ (y62 : Int64) (y64 : Int64) (y63 : Int64) (s70 : ev_St), ef wl_26 S s70 → efo wl_26 S (K139 y62 y64 y63 s70)) (fun y62 y64 y63 s70  h_s70 => (efo_b0 (fun y71 => (h_K142 _ _ _  h_s70)))) (fun K139 h_K139 => (efo_ite (efo_ck (fun x73 => (efo_b0 (fun y74 => (h_K139 _ _ _ _  h_s60))))) (h_K139 _ _ _ _  h_s60))))))) (fun K117 h_K117 => (efo_ite (h_K117 _ _ _  h_s40) (efo_b0 (fun y76 => (h_K117 _ _ _  h_s40)))))))))))))))
theorem efl_26_79 {Q : Nat} {x4 : Int} {S : ev_St}  : ∀ (q : Nat) (y12 : Int64) (y13 : Int64) (x14 : Int) (s21 : ev_St), ef wl_26 S s21 → efo wl_26 S (jl_26_79 Q x4 q y12 y13 x14 s21)
  | 0, _, _, _, _, _ => efo_none
  | q + 1, y12, y13, x14, s21, h_s21 => efb_26_79  (efl_26_79  q) y12 y13 x14 s21 h_s21
theorem ef_26 {Q : Nat} {S : ev_St} : efo wl_26 S (jm_26 Q S) := by
  unfold jm_26
  exact (efo_bd (ef_rfl) (by decide +kernel) ef_27 (fun x2 s1 h_s1 => (efo_jn (fun K60 => ∀ (x3 : Int) (x4 : Int) (s9 : ev_St), ef wl_26 S s9 → efo wl_26 S (K60 x3 x4 s9)) (fun x3 x4 s9  h_s9 => (efo_ite (efo_some h_s9) (efo_ite (efl_26_79  _ _ _ _ _ h_s9) (efo_some h_s9)))) (fun K60 h_K60 => (efo_ite (h_K60 _ _ _  h_s1) (efo_b0 (fun r78 => (efo_b0 (fun x79 => (efo_if (efo_bd h_s1 (by decide +kernel) ef_151 (fun x82 s81 h_s81 => (efo_ite (h_K60 _ _ _  h_s81) (efo_b0 (fun r84 => (efo_b0 (fun x85 => (efo_ck (fun x86 => (efo_if (efo_bd h_s81 (by decide +kernel) ef_151 (fun x89 s88 h_s88 => (efo_ite (h_K60 _ _ _  h_s88) (efo_b0 (fun x91 => (efo_ck (fun x92 => (efo_bI h_s88 rfl (fun s93 h_s93 => (efo_bd h_s93 (by decide +kernel) ef_27 (fun x95 s94 h_s94 => (h_K60 _ _ _  h_s94))))))))))))))))))))))))))))))))
def wl_21 : List (Nat × Nat × Nat) := [(0, 6, 9), (1, 9, 999999), (1, 10, 999999), (0, 11, 999999), (1, 7, 999999), (1, 8, 999999), (0, 13, 999999), (0, 6, 7), (0, 12, 999999), (1, 6, 11), (1, 6, 12)]
theorem ef_21 {Q : Nat} {S : ev_St} : efo wl_21 S (jm_21 Q S) := by
  unfold jm_21
  exact (efo_b0 (fun r1 => (efo_b0 (fun x2 => (efo_if (efo_bd (ef_rfl) (by decide +kernel) ef_151 (fun x5 s4 h_s4 => (efo_b0 (fun r6 => (efo_b0 (fun x7 => (efo_ck (fun x8 => (efo_if (efo_bd h_s4 (by decide +kernel) ef_151 (fun x11 s10 h_s10 => (efo_ite (efo_ite (efo_jn (fun K101 => ∀ (s18 : ev_St), ef wl_21 S s18 → efo wl_21 S (K101 s18)) (fun s18  h_s18 => (efo_jn (fun K137 => ∀ (s21 : ev_St), ef wl_21 S s21 → efo wl_21 S (K137 s21)) (fun s21  h_s21 => (efo_bd h_s21 (by decide +kernel) ef_26 (fun x23 s22 h_s22 => (efo_if (efo_some h_s22))))) (fun K137 h_K137 => (efo_ite (h_K137 _  h_s18) (efo_bd h_s18 (by decide +kernel) ef_216 (fun x27 s26 h_s26 => (efo_ite (h_K137 _  h_s26) (efo_b0 (fun x29 => (efo_ck (fun x30 => (efo_bI h_s26 rfl (fun s31 h_s31 => (efo_bd h_s31 (by decide +kernel) ef_217 (fun y33 s32 h_s32 => (efo_bd h_s32 (by decide +kernel) ef_218 (fun y35 s34 h_s34 => (efo_bd h_s34 (by decide +kernel) ef_22 (fun x37 s36 h_s36 => (efo_if (efo_some h_s36))))))))))))))))))))) (fun K101 h_K101 => (efo_ite (h_K101 _  h_s10) (efo_jn (fun K85 => ∀ (s43 : ev_St), ef wl_21 S s43 → efo wl_21 S (K85 s43)) (fun s43  h_s43 => (efo_b0 (fun x44 => (efo_ck (fun x45 => (efo_bI h_s43 rfl (fun s46 h_s46 => (efo_bd h_s46 (by decide +kernel) ef_23 (fun x48 s47 h_s47 => (efo_if (efo_some h_s47))))))))))) (fun K85 h_K85 => (efo_ite (h_K85 _  h_s10) (efo_ite (h_K101 _  h_s10) (h_K85 _  h_s10)))))))) (efo_b0 (fun x52 => (efo_ck (fun x53 => (efo_bI h_s10 rfl (fun s54 h_s54 => (efo_bd h_s54 (by decide +kernel) ef_19 (fun x56 s55 h_s55 => (efo_if (efo_some h_s55))))))))))) (efo_b0 (fun x58 => (efo_ck (fun x59 => (efo_bI h_s10 rfl (fun s60 h_s60 => (efo_bd h_s60 (by decide +kernel) ef_25 (fun x62 s61 h_s61 => (efo_if (efo_some h_s61)))))))))))))))))))))))))))
def wl_18 : List (Nat × Nat × Nat) := [(2, 6, 8), (0, 6, 9), (0, 6, 10), (0, 6, 7), (1, 7, 999999), (1, 8, 999999), (0, 13, 999999), (1, 9, 999999), (1, 10, 999999), (0, 11, 999999), (0, 12, 999999), (1, 6, 11), (1, 6, 12)]
theorem efb_18_32 {Q : Nat} {K32 : Int → ev_St → Option ((Int) × ev_St)} {S : ev_St}  (h_K32 : ∀ (x9 : Int) (s13 : ev_St), ef wl_18 S s13 → efo wl_18 S (K32 x9 s13)) : ∀ (x9 : Int) (s13 : ev_St), ef wl_18 S s13 → efo wl_18 S (jb_18_32 Q K32 x9 s13) := fun x9 s13 h_s13 => by
  unfold jb_18_32
  exact (efo_ite (efo_some h_s13) (efo_b0 (fun x15 => (efo_ite (efo_bd h_s13 (by decide +kernel) ef_21 (fun x18 s17 h_s17 => (efo_ite (efo_ck (fun x20 => (h_K32 _ _ h_s17))) (efo_some h_s17)))) (efo_b0 (fun x21 => (efo_some h_s13)))))))
theorem efl_18_32 {Q : Nat} {S : ev_St}  : ∀ (q : Nat) (x9 : Int) (s13 : ev_St), ef wl_18 S s13 → efo wl_18 S (jl_18_32 Q q x9 s13)
  | 0, _, _, _ => efo_none
  | q + 1, x9, s13, h_s13 => efb_18_32  (efl_18_32  q) x9 s13 h_s13
theorem ef_18 {Q : Nat} {a0 : Nat} {a1 : Int} {a2 : Int} {S : ev_St} : efo wl_18 S (jm_18 Q a0 a1 a2 S) := by
  unfold jm_18
  exact (efo_bR (ef_rfl) rfl (fun s1 h_s1 => (efo_bI h_s1 rfl (fun s2 h_s2 => (efo_if (efo_bI h_s2 rfl (fun s3 h_s3 => (efo_bI h_s3 rfl (fun s5 h_s5 => (efo_bd h_s5 (by decide +kernel) ef_19 (fun x7 s6 h_s6 => (efo_ite (efl_18_32  _ _ _ h_s6) (efo_some h_s6)))))))))))))
def wl_61 : List (Nat × Nat × Nat) := []
theorem ef_61 {Q : Nat} {a0 : Int} {S : ev_St} : efo wl_61 S (jm_61 Q a0 S) := by
  unfold jm_61
  exact (efo_ite (efo_some (ef_rfl)) (efo_ite (efo_some (ef_rfl)) (efo_some (ef_rfl))))
def wl_62 : List (Nat × Nat × Nat) := []
theorem ef_62 {Q : Nat} {a0 : Int} {S : ev_St} : efo wl_62 S (jm_62 Q a0 S) := by
  unfold jm_62
  exact (efo_ite (efo_some (ef_rfl)) (efo_ite (efo_some (ef_rfl)) (efo_some (ef_rfl))))
def wl_59 : List (Nat × Nat × Nat) := []
theorem ef_59 {Q : Nat} {k : Nat} {a0 : Int} {S : ev_St} : efo wl_59 S (jm_59 Q k a0 S) := by
  unfold jm_59
  exact (efo_ite (efo_some (ef_rfl)) (efo_b0 (fun x2 => (efo_ite (efo_some (ef_rfl)) (efo_ite (efo_some (ef_rfl)) (efo_some (ef_rfl)))))))
def wl_64 : List (Nat × Nat × Nat) := []
theorem ef_64 {Q : Nat} {a0 : Int} {S : ev_St} : efo wl_64 S (jm_64 Q a0 S) := by
  unfold jm_64
  exact (efo_ite (efo_some (ef_rfl)) (efo_ite (efo_some (ef_rfl)) (efo_some (ef_rfl))))
def wl_63 : List (Nat × Nat × Nat) := []
theorem ef_63 {Q : Nat} {a0 : Int} {S : ev_St} : efo wl_63 S (jm_63 Q a0 S) := by
  unfold jm_63
  exact (efo_ite (efo_some (ef_rfl)) (efo_some (ef_rfl)))
def wl_60 : List (Nat × Nat × Nat) := []
theorem ef_60 {Q : Nat} {k : Nat} {S : ev_St} : efo wl_60 S (jm_60 Q k S) := by
  unfold jm_60
  exact (efo_if (efo_b0 (fun x1 => (efo_some (ef_rfl)))))
def wl_214 : List (Nat × Nat × Nat) := []
theorem ef_214 {Q : Nat} {a0 : Int64} {a1 : Int64} {a2 : Int} {S : ev_St} : efo wl_214 S (jm_214 Q a0 a1 a2 S) := by
  unfold jm_214
  exact (efo_ite (efo_some (ef_rfl)) (efo_ite (efo_some (ef_rfl)) (efo_jn (fun K25 => ∀ (y3 : Int64) (s6 : ev_St), ef wl_214 S s6 → efo wl_214 S (K25 y3 s6)) (fun y3 s6  h_s6 => (efo_b0 (fun x7 => (efo_b0 (fun y8 => (efo_b0 (fun y9 => (efo_b0 (fun x10 => (efo_ite (efo_some h_s6) (efo_some h_s6))))))))))) (fun K25 h_K25 => (efo_ite (h_K25 _ _  (ef_rfl)) (h_K25 _ _  (ef_rfl)))))))
def wl_30 : List (Nat × Nat × Nat) := []
theorem efb_30_3 {Q : Nat} {a0 : Int64} {a1 : Int64} {K3 : Int → ev_St → Option ((Int) × ev_St)} {S : ev_St}  (h_K3 : ∀ (x1 : Int) (s6 : ev_St), ef wl_30 S s6 → efo wl_30 S (K3 x1 s6)) : ∀ (x1 : Int) (s6 : ev_St), ef wl_30 S s6 → efo wl_30 S (jb_30_3 Q a0 a1 K3 x1 s6) := fun x1 s6 h_s6 => by
  unfold jb_30_3
  exact (efo_ite (efo_some h_s6) (efo_bd h_s6 (by decide +kernel) ef_214 (fun x9 s8 h_s8 => (efo_ite (efo_ck (fun x11 => (h_K3 _ _ h_s8))) (efo_some h_s8)))))
theorem efl_30_3 {Q : Nat} {a0 : Int64} {a1 : Int64} {S : ev_St}  : ∀ (q : Nat) (x1 : Int) (s6 : ev_St), ef wl_30 S s6 → efo wl_30 S (jl_30_3 Q a0 a1 q x1 s6)
  | 0, _, _, _ => efo_none
  | q + 1, x1, s6, h_s6 => efb_30_3  (efl_30_3  q) x1 s6 h_s6
theorem ef_30 {Q : Nat} {a0 : Int64} {a1 : Int64} {S : ev_St} : efo wl_30 S (jm_30 Q a0 a1 S) := by
  unfold jm_30
  exact (efl_30_3  _ _ _ (ef_rfl))
def wl_65 : List (Nat × Nat × Nat) := []
theorem ef_65 {Q : Nat} {k : Nat} {a0 : Int} {S : ev_St} : efo wl_65 S (jm_65 Q k a0 S) := by
  unfold jm_65
  exact (efo_bd (ef_rfl) (by decide +kernel) ef_59 (fun x2 s1 h_s1 => (efo_jn (fun K18 => ∀ (x3 : Int) (s6 : ev_St), ef wl_65 S s6 → efo wl_65 S (K18 x3 s6)) (fun x3 s6  h_s6 => (efo_bd h_s6 (by decide +kernel) ef_59 (fun x8 s7 h_s7 => (efo_ite (efo_some h_s7) (efo_if (efo_b0 (fun x10 => (efo_ite (efo_some h_s7) (efo_some h_s7))))))))) (fun K18 h_K18 => (efo_ite (h_K18 _ _  h_s1) (efo_if (efo_b0 (fun x13 => (h_K18 _ _  h_s1)))))))))
def wl_362 : List (Nat × Nat × Nat) := []
theorem ef_362 {Q : Nat} {a0 : Int64} {S : ev_St} : efo wl_362 S (jm_362 Q a0 S) := by
  unfold jm_362
  exact (efo_b0 (fun y1 => (efo_b0 (fun y2 => (efo_b0 (fun y3 => (efo_b0 (fun y4 => (efo_b0 (fun y5 => (efo_b0 (fun y6 => (efo_b0 (fun y7 => (efo_b0 (fun y8 => (efo_b0 (fun y9 => (efo_b0 (fun y10 => (efo_b0 (fun y11 => (efo_b0 (fun y12 => (efo_b0 (fun y13 => (efo_b0 (fun y14 => (efo_b0 (fun y15 => (efo_b0 (fun y16 => (efo_b0 (fun x17 => (efo_b0 (fun x18 => (efo_some (ef_rfl))))))))))))))))))))))))))))))))))))))
def wl_66 : List (Nat × Nat × Nat) := []
theorem ef_66 {Q : Nat} {k : Nat} {a0 : Int} {S : ev_St} : efo wl_66 S (jm_66 Q k a0 S) := by
  unfold jm_66
  exact (efo_bd (ef_rfl) (by decide +kernel) ef_59 (fun x2 s1 h_s1 => (efo_ite (efo_some h_s1) (efo_if (efo_b0 (fun x4 => (efo_ite (efo_some h_s1) (efo_if (efo_b0 (fun y6 => (efo_bd h_s1 (by decide +kernel) ef_362 (fun x8 s7 h_s7 => (efo_if (efo_b0 (fun y9 => (efo_bd h_s7 (by decide +kernel) ef_362 (fun x11 s10 h_s10 => (efo_ck (fun x12 => (efo_ite (efo_some h_s10) (efo_some h_s10)))))))))))))))))))))
def wl_38 : List (Nat × Nat × Nat) := []
theorem efb_38_2 {Q : Nat} {K2 : Int → ev_St → Option ((Int) × ev_St)} {S : ev_St}  (h_K2 : ∀ (x1 : Int) (s5 : ev_St), ef wl_38 S s5 → efo wl_38 S (K2 x1 s5)) : ∀ (x1 : Int) (s5 : ev_St), ef wl_38 S s5 → efo wl_38 S (jb_38_2 Q K2 x1 s5) := fun x1 s5 h_s5 => by
  unfold jb_38_2
  exact (efo_b0 (fun r6 => (efo_if (efo_b0 (fun x8 => (efo_ite (efo_some h_s5) (efo_ite (efo_some h_s5) (efo_b0 (fun r11 => (efo_if (efo_if (efo_b0 (fun x13 => (efo_b0 (fun r14 => (efo_if (efo_if (efo_b0 (fun x16 => (efo_bd h_s5 (by decide +kernel) ef_62 (fun x18 s17 h_s17 => (efo_jn (fun K65 => ∀ (x19 : Int) (x20 : Int) (x21 : Int) (s27 : ev_St), ef wl_38 S s27 → efo wl_38 S (K65 x19 x20 x21 s27)) (fun x19 x20 x21 s27  h_s27 => (efo_jn (fun K94 => ∀ (s32 : ev_St), ef wl_38 S s32 → efo wl_38 S (K94 s32)) (fun s32  h_s32 => (efo_jn (fun K117 => ∀ (x33 : Int) (s37 : ev_St), ef wl_38 S s37 → efo wl_38 S (K117 x33 s37)) (fun x33 s37  h_s37 => (efo_ite (efo_ck (fun x39 => (h_K2 _ _ h_s37))) (efo_some h_s37))) (fun K117 h_K117 => (efo_jn (fun K112 => ∀ (s43 : ev_St), ef wl_38 S s43 → efo wl_38 S (K112 s43)) (fun s43  h_s43 => (h_K117 _ _  h_s43)) (fun K112 h_K112 => (efo_jn (fun K106 => ∀ (s48 : ev_St), ef wl_38 S s48 → efo wl_38 S (K106 s48)) (fun s48  h_s48 => (efo_ite (h_K117 _ _  h_s48) (h_K112 _  h_s48))) (fun K106 h_K106 => (efo_ite (h_K106 _  h_s32) (efo_ite (h_K112 _  h_s32) (h_K106 _  h_s32)))))))))) (fun K94 h_K94 => (efo_ite (h_K94 _  h_s27) (efo_b0 (fun r53 => (efo_if (efo_bd h_s27 (by decide +kernel) ef_59 (fun x56 s55 h_s55 => (efo_ite (h_K94 _  h_s55) (efo_if (efo_b0 (fun x58 => (efo_ite (h_K94 _  h_s55) (efo_some h_s55))))))))))))))) (fun K65 h_K65 => (efo_jn (fun K64 => ∀ (x60 : Int) (x61 : Int) (s67 : ev_St), ef wl_38 S s67 → efo wl_38 S (K64 x60 x61 s67)) (fun x60 x61 s67  h_s67 => (h_K65 _ _ _ _  h_s67)) (fun K64 h_K64 => (efo_ite (h_K64 _ _ _  h_s17) (efo_b0 (fun r69 => (efo_if (efo_if (efo_b0 (fun x71 => (efo_ite (h_K64 _ _ _  h_s17) (h_K65 _ _ _ _  h_s17))))))))))))))))))))))))))))))))))
theorem efl_38_2 {Q : Nat} {S : ev_St}  : ∀ (q : Nat) (x1 : Int) (s5 : ev_St), ef wl_38 S s5 → efo wl_38 S (jl_38_2 Q q x1 s5)
  | 0, _, _, _ => efo_none
  | q + 1, x1, s5, h_s5 => efb_38_2  (efl_38_2  q) x1 s5 h_s5
theorem ef_38 {Q : Nat} {S : ev_St} : efo wl_38 S (jm_38 Q S) := by
  unfold jm_38
  exact (efl_38_2  _ _ _ (ef_rfl))
def wl_39 : List (Nat × Nat × Nat) := []
theorem efb_39_2 {Q : Nat} {K2 : Int → ev_St → Option ((Int) × ev_St)} {S : ev_St}  (h_K2 : ∀ (x1 : Int) (s5 : ev_St), ef wl_39 S s5 → efo wl_39 S (K2 x1 s5)) : ∀ (x1 : Int) (s5 : ev_St), ef wl_39 S s5 → efo wl_39 S (jb_39_2 Q K2 x1 s5) := fun x1 s5 h_s5 => by
  unfold jb_39_2
  exact (efo_b0 (fun r6 => (efo_if (efo_b0 (fun x8 => (efo_ite (efo_some h_s5) (efo_ite (efo_some h_s5) (efo_b0 (fun r11 => (efo_if (efo_if (efo_b0 (fun x13 => (efo_bd h_s5 (by decide +kernel) ef_61 (fun x15 s14 h_s14 => (efo_ite (efo_ck (fun x17 => (h_K2 _ _ h_s14))) (efo_some h_s14)))))))))))))))))
theorem efl_39_2 {Q : Nat} {S : ev_St}  : ∀ (q : Nat) (x1 : Int) (s5 : ev_St), ef wl_39 S s5 → efo wl_39 S (jl_39_2 Q q x1 s5)
  | 0, _, _, _ => efo_none
  | q + 1, x1, s5, h_s5 => efb_39_2  (efl_39_2  q) x1 s5 h_s5
theorem ef_39 {Q : Nat} {S : ev_St} : efo wl_39 S (jm_39 Q S) := by
  unfold jm_39
  exact (efl_39_2  _ _ _ (ef_rfl))
def wl_70 : List (Nat × Nat × Nat) := []
theorem ef_70 {Q : Nat} {k : Nat} {a0 : Int} {S : ev_St} : efo wl_70 S (jm_70 Q k a0 S) := by
  unfold jm_70
  exact (efo_ite (efo_some (ef_rfl)) (efo_b0 (fun x2 => (efo_ite (efo_some (ef_rfl)) (efo_ite (efo_some (ef_rfl)) (efo_some (ef_rfl)))))))
def wl_80 : List (Nat × Nat × Nat) := []
theorem ef_80 {Q : Nat} {k : Nat} {a0 : Int} {S : ev_St} : efo wl_80 S (jm_80 Q k a0 S) := by
  unfold jm_80
  exact (efo_ck (fun x1 => (efo_bd (ef_rfl) (by decide +kernel) ef_70 (fun x3 s2 h_s2 => (efo_jn (fun K26 => ∀ (x4 : Int) (s8 : ev_St), ef wl_80 S s8 → efo wl_80 S (K26 x4 s8)) (fun x4 s8  h_s8 => (efo_if (efo_b0 (fun x9 => (efo_ck (fun x10 => (efo_bd h_s8 (by decide +kernel) ef_70 (fun x12 s11 h_s11 => (efo_jn (fun K63 => ∀ (x13 : Int) (x14 : Int) (s19 : ev_St), ef wl_80 S s19 → efo wl_80 S (K63 x13 x14 s19)) (fun x13 x14 s19  h_s19 => (efo_if (efo_b0 (fun x20 => (efo_ite (efo_ite (efo_some h_s19) (efo_if (efo_b0 (fun y23 => (efo_b0 (fun x24 => (efo_ite (efo_some h_s19) (efo_if (efo_b0 (fun y26 => (efo_b0 (fun x27 => (efo_ite (efo_some h_s19) (efo_some h_s19)))))))))))))) (efo_ite (efo_if (efo_some h_s19)) (efo_ite (efo_if (efo_some h_s19)) (efo_ite (efo_ite (efo_some h_s19) (efo_ite (efo_some h_s19) (efo_some h_s19))) (efo_ite (efo_some h_s19) (efo_if (efo_some h_s19))))))))))) (fun K63 h_K63 => (efo_jn (fun K62 => ∀ (x38 : Int) (s43 : ev_St), ef wl_80 S s43 → efo wl_80 S (K62 x38 s43)) (fun x38 s43  h_s43 => (h_K63 _ _ _  h_s43)) (fun K62 h_K62 => (efo_ite (h_K62 _ _  h_s11) (efo_if (efo_b0 (fun x45 => (efo_ck (fun x46 => (efo_if (efo_b0 (fun x47 => (efo_ite (h_K62 _ _  h_s11) (h_K63 _ _ _  h_s11))))))))))))))))))))))) (fun K26 h_K26 => (efo_jn (fun K25 => ∀ (s52 : ev_St), ef wl_80 S s52 → efo wl_80 S (K25 s52)) (fun s52  h_s52 => (h_K26 _ _  h_s52)) (fun K25 h_K25 => (efo_ite (h_K25 _  h_s2) (efo_ck (fun x54 => (efo_if (efo_b0 (fun x55 => (efo_ite (h_K25 _  h_s2) (h_K26 _ _  h_s2))))))))))))))))
def wl_121 : List (Nat × Nat × Nat) := [(2, 281, 0), (2, 281, 1), (0, 281, 14), (0, 281, 10)]
theorem ef_121 {Q : Nat} {a0 : Nat} {a1 : Nat} {S : ev_St} : efo wl_121 S (jm_121 Q a0 a1 S) := by
  unfold jm_121
  exact (efo_bR (ef_rfl) rfl (fun s1 h_s1 => (efo_bR h_s1 rfl (fun s2 h_s2 => (efo_bI h_s2 rfl (fun s3 h_s3 => (efo_bI h_s3 rfl (fun s4 h_s4 => (efo_some h_s4)))))))))
def wl_132 : List (Nat × Nat × Nat) := [(0, 281, 3), (0, 281, 4), (0, 281, 5), (0, 281, 7)]
theorem ef_132 {Q : Nat} {a0 : Int} {a1 : Int} {a2 : Int} {S : ev_St} : efo wl_132 S (jm_132 Q a0 a1 a2 S) := by
  unfold jm_132
  exact (efo_ite (efo_some (ef_rfl)) (efo_ck (fun x2 => (efo_b0 (fun x3 => (efo_ite (efo_some (ef_rfl)) (efo_bI (ef_rfl) rfl (fun s5 h_s5 => (efo_bI h_s5 rfl (fun s6 h_s6 => (efo_ck (fun x7 => (efo_if (efo_b0 (fun x8 => (efo_bI h_s6 rfl (fun s9 h_s9 => (efo_ck (fun x10 => (efo_if (efo_b0 (fun x11 => (efo_bI h_s9 rfl (fun s12 h_s12 => (efo_some h_s12)))))))))))))))))))))))))
def wl_135 : List (Nat × Nat × Nat) := []
theorem efb_135_4 {Q : Nat} {K4 : Int → ev_St → Option ((Int) × ev_St)} {S : ev_St}  (h_K4 : ∀ (x2 : Int) (s6 : ev_St), ef wl_135 S s6 → efo wl_135 S (K4 x2 s6)) : ∀ (x2 : Int) (s6 : ev_St), ef wl_135 S s6 → efo wl_135 S (jb_135_4 Q K4 x2 s6) := fun x2 s6 h_s6 => by
  unfold jb_135_4
  exact (efo_ite (efo_some h_s6) (efo_ck (fun x8 => (efo_ck (fun x9 => (efo_b0 (fun x10 => (efo_jn (fun K37 => ∀ (s14 : ev_St), ef wl_135 S s14 → efo wl_135 S (K37 s14)) (fun s14  h_s14 => (efo_ck (fun x15 => (h_K4 _ _ h_s14)))) (fun K37 h_K37 => (efo_ite (h_K37 _  h_s6) (efo_if (efo_b0 (fun x17 => (efo_ite (h_K37 _  h_s6) (efo_some h_s6)))))))))))))))
theorem efl_135_4 {Q : Nat} {S : ev_St}  : ∀ (q : Nat) (x2 : Int) (s6 : ev_St), ef wl_135 S s6 → efo wl_135 S (jl_135_4 Q q x2 s6)
  | 0, _, _, _ => efo_none
  | q + 1, x2, s6, h_s6 => efb_135_4  (efl_135_4  q) x2 s6 h_s6
theorem ef_135 {Q : Nat} {a0 : Int} {S : ev_St} : efo wl_135 S (jm_135 Q a0 S) := by
  unfold jm_135
  exact (efo_ck (fun x1 => (efl_135_4  _ _ _ (ef_rfl))))
def wl_123 : List (Nat × Nat × Nat) := [(0, 281, 14), (0, 281, 10)]
theorem ef_123 {Q : Nat} {S : ev_St} : efo wl_123 S (jm_123 Q S) := by
  unfold jm_123
  exact (efo_b0 (fun x1 => (efo_ite (efo_b0 (fun x3 => (efo_ck (fun x4 => (efo_bI (ef_rfl) rfl (fun s5 h_s5 => (efo_some h_s5))))))) (efo_bI (ef_rfl) rfl (fun s6 h_s6 => (efo_some h_s6))))))
def wl_133 : List (Nat × Nat × Nat) := [(0, 281, 14), (0, 281, 10), (0, 283, 999999), (0, 281, 9), (0, 281, 3), (0, 281, 4), (0, 281, 5), (0, 281, 7), (0, 281, 2)]
theorem ef_133 {Q : Nat} {a0 : Int} {S : ev_St} : efo wl_133 S (jm_133 Q a0 S) := by
  unfold jm_133
  exact (efo_ck (fun x1 => (efo_if (efo_b0 (fun x2 => (efo_b0 (fun x3 => (efo_b0 (fun r4 => (efo_if (efo_bd (ef_rfl) (by decide +kernel) ef_59 (fun x7 s6 h_s6 => (efo_jn (fun K41 => ∀ (x8 : Int) (x9 : Int) (s14 : ev_St), ef wl_133 S s14 → efo wl_133 S (K41 x8 x9 s14)) (fun x8 x9 s14  h_s14 => (efo_ite (efo_b0 (fun x16 => (efo_if (efo_some h_s14)))) (efo_ck (fun x18 => (efo_if (efo_b0 (fun x19 => (efo_ite (efo_b0 (fun x21 => (efo_if (efo_some h_s14)))) (efo_bd h_s14 (by decide +kernel) ef_123 (fun x24 s23 h_s23 => (efo_ite (efo_ck (fun x26 => (efo_if (efo_b0 (fun x27 => (efo_ck (fun x28 => (efo_if (efo_bI h_s23 rfl (fun s29 h_s29 => (efo_b0 (fun x30 => (efo_ck (fun x31 => (efo_bI h_s29 rfl (fun s32 h_s32 => (efo_ck (fun x33 => (efo_if (efo_b0 (fun x34 => (efo_ck (fun x35 => (efo_if (efo_b0 (fun x36 => (efo_bd h_s32 (by decide +kernel) ef_132 (fun _ s37 h_s37 => (efo_b0 (fun r38 => (efo_if (efo_if (efo_b0 (fun x40 => (efo_bI h_s37 rfl (fun s41 h_s41 => (efo_some h_s41))))))))))))))))))))))))))))))))))))) (efo_b0 (fun x42 => (efo_if (efo_some h_s23))))))))))))))) (fun K41 h_K41 => (efo_jn (fun K40 => ∀ (x44 : Int) (s49 : ev_St), ef wl_133 S s49 → efo wl_133 S (K40 x44 s49)) (fun x44 s49  h_s49 => (h_K41 _ _ _  h_s49)) (fun K40 h_K40 => (efo_ite (h_K40 _ _  h_s6) (efo_b0 (fun r51 => (efo_if (efo_if (efo_b0 (fun x53 => (efo_ite (h_K40 _ _  h_s6) (h_K41 _ _ _  h_s6)))))))))))))))))))))))))
def wl_126 : List (Nat × Nat × Nat) := []
theorem ef_126 {Q : Nat} {a0 : Int} {S : ev_St} : efo wl_126 S (jm_126 Q a0 S) := by
  unfold jm_126
  exact (efo_ite (efo_some (ef_rfl)) (efo_ck (fun x2 => (efo_b0 (fun x3 => (efo_ite (efo_some (ef_rfl)) (efo_b0 (fun x5 => (efo_b0 (fun x6 => (efo_ite (efo_some (ef_rfl)) (efo_some (ef_rfl)))))))))))))
def wl_134 : List (Nat × Nat × Nat) := [(0, 281, 3), (0, 281, 4), (0, 281, 5), (0, 281, 7), (0, 281, 2)]
theorem ef_134 {Q : Nat} {a0 : Int} {S : ev_St} : efo wl_134 S (jm_134 Q a0 S) := by
  unfold jm_134
  exact (efo_ck (fun x1 => (efo_if (efo_b0 (fun x2 => (efo_b0 (fun x3 => (efo_ck (fun x4 => (efo_if (efo_b0 (fun x5 => (efo_b0 (fun r6 => (efo_if (efo_bd (ef_rfl) (by decide +kernel) ef_59 (fun x9 s8 h_s8 => (efo_jn (fun K44 => ∀ (x10 : Int) (x11 : Int) (x12 : Int) (s18 : ev_St), ef wl_134 S s18 → efo wl_134 S (K44 x10 x11 x12 s18)) (fun x10 x11 x12 s18  h_s18 => (efo_jn (fun K60 => ∀ (s24 : ev_St), ef wl_134 S s24 → efo wl_134 S (K60 s24)) (fun s24  h_s24 => (efo_bd h_s24 (by decide +kernel) ef_126 (fun x26 s25 h_s25 => (efo_ite (efo_ck (fun x28 => (efo_if (efo_b0 (fun x29 => (efo_if (efo_b0 (fun x30 => (efo_bd h_s25 (by decide +kernel) ef_132 (fun _ s31 h_s31 => (efo_b0 (fun r32 => (efo_if (efo_if (efo_b0 (fun x34 => (efo_bI h_s31 rfl (fun s35 h_s35 => (efo_some h_s35))))))))))))))))))) (efo_some h_s25))))) (fun K60 h_K60 => (efo_ite (h_K60 _  h_s18) (efo_ite (efo_some h_s18) (h_K60 _  h_s18)))))) (fun K44 h_K44 => (efo_ite (h_K44 _ _ _ _  h_s8) (efo_b0 (fun r39 => (efo_if (efo_if (efo_b0 (fun x41 => (h_K44 _ _ _ _  h_s8)))))))))))))))))))))))))))
def wl_131 : List (Nat × Nat × Nat) := [(0, 281, 9), (0, 281, 3), (0, 281, 4), (0, 281, 5), (0, 281, 7), (0, 281, 2), (0, 281, 14), (0, 281, 10), (0, 283, 999999), (0, 281, 13)]
theorem efb_131_2 {Q : Nat} {K2 : Int → ev_St → Option ((Int) × ev_St)} {S : ev_St}  (h_K2 : ∀ (x1 : Int) (s5 : ev_St), ef wl_131 S s5 → efo wl_131 S (K2 x1 s5)) : ∀ (x1 : Int) (s5 : ev_St), ef wl_131 S s5 → efo wl_131 S (jb_131_2 Q K2 x1 s5) := fun x1 s5 h_s5 => by
  unfold jb_131_2
  exact (efo_ite (efo_some h_s5) (efo_b0 (fun x7 => (efo_ite (efo_some h_s5) (efo_b0 (fun x9 => (efo_ck (fun x10 => (efo_bI h_s5 rfl (fun s11 h_s11 => (efo_b0 (fun x12 => (efo_ck (fun x13 => (efo_ite (efo_some h_s11) (efo_ck (fun x15 => (efo_b0 (fun x16 => (efo_ite (efo_if (efo_b0 (fun x18 => (efo_ite (efo_jn (fun K152 => ∀ (x20 : Int) (s26 : ev_St), ef wl_131 S s26 → efo wl_131 S (K152 x20 s26)) (fun x20 s26  h_s26 => (efo_jn (fun K173 => ∀ (s29 : ev_St), ef wl_131 S s29 → efo wl_131 S (K173 s29)) (fun s29  h_s29 => (efo_b0 (fun x30 => (efo_ite (efo_some h_s29) (efo_some h_s29))))) (fun K173 h_K173 => (efo_jn (fun K165 => ∀ (s36 : ev_St), ef wl_131 S s36 → efo wl_131 S (K165 s36)) (fun s36  h_s36 => (efo_bd h_s36 (by decide +kernel) ef_134 (fun x38 s37 h_s37 => (efo_ite (efo_ck (fun x40 => (h_K2 _ _ h_s37))) (h_K173 _  h_s37))))) (fun K165 h_K165 => (efo_ite (h_K165 _  h_s26) (efo_bd h_s26 (by decide +kernel) ef_133 (fun x43 s42 h_s42 => (efo_ite (h_K173 _  h_s42) (h_K165 _  h_s42)))))))))) (fun K152 h_K152 => (efo_ite (h_K152 _ _  h_s11) (efo_b0 (fun x46 => (efo_bd h_s11 (by decide +kernel) ef_135 (fun x48 s47 h_s47 => (efo_bI h_s47 rfl (fun s49 h_s49 => (efo_b0 (fun x50 => (efo_ite (efo_b0 (fun x52 => (efo_ck (fun x53 => (h_K152 _ _  h_s49))))) (efo_ck (fun x54 => (efo_if (efo_b0 (fun x55 => (efo_bI h_s49 rfl (fun s56 h_s56 => (efo_ite (efo_some h_s56) (efo_some h_s56))))))))))))))))))))) (efo_ck (fun x58 => (efo_if (efo_b0 (fun x59 => (efo_bI h_s11 rfl (fun s60 h_s60 => (efo_ck (fun x61 => (efo_if (efo_b0 (fun x62 => (efo_ck (fun x63 => (efo_if (efo_b0 (fun x64 => (efo_bd h_s60 (by decide +kernel) ef_132 (fun _ s65 h_s65 => (efo_some h_s65)))))))))))))))))))))))) (efo_some h_s11)))))))))))))))))))))
theorem efl_131_2 {Q : Nat} {S : ev_St}  : ∀ (q : Nat) (x1 : Int) (s5 : ev_St), ef wl_131 S s5 → efo wl_131 S (jl_131_2 Q q x1 s5)
  | 0, _, _, _ => efo_none
  | q + 1, x1, s5, h_s5 => efb_131_2  (efl_131_2  q) x1 s5 h_s5
theorem ef_131 {Q : Nat} {S : ev_St} : efo wl_131 S (jm_131 Q S) := by
  unfold jm_131
  exact (efl_131_2  _ _ _ (ef_rfl))
def wl_125 : List (Nat × Nat × Nat) := [(0, 282, 999999), (0, 281, 7)]
theorem ef_125 {Q : Nat} {a0 : Int} {a1 : Int} {a2 : Int} {a3 : Int} {S : ev_St} : efo wl_125 S (jm_125 Q a0 a1 a2 a3 S) := by
  unfold jm_125
  exact (efo_b0 (fun x1 => (efo_ite (efo_some (ef_rfl)) (efo_ck (fun x3 => (efo_b0 (fun x4 => (efo_ite (efo_if (efo_bI (ef_rfl) rfl (fun s6 h_s6 => (efo_ck (fun x7 => (efo_if (efo_bI h_s6 rfl (fun s8 h_s8 => (efo_ck (fun x9 => (efo_if (efo_bI h_s8 rfl (fun s10 h_s10 => (efo_ck (fun x11 => (efo_if (efo_bI h_s10 rfl (fun s12 h_s12 => (efo_b0 (fun x13 => (efo_ck (fun x14 => (efo_bI h_s12 rfl (fun s15 h_s15 => (efo_some h_s15))))))))))))))))))))))))) (efo_some (ef_rfl))))))))))
def wl_124 : List (Nat × Nat × Nat) := [(0, 282, 999999), (0, 281, 7)]
theorem ef_124 {Q : Nat} {a0 : Int} {a1 : Int} {a2 : Int} {a3 : Int} {S : ev_St} : efo wl_124 S (jm_124 Q a0 a1 a2 a3 S) := by
  unfold jm_124
  exact (efo_bd (ef_rfl) (by decide +kernel) ef_126 (fun x2 s1 h_s1 => (efo_jn (fun K23 => ∀ (x3 : Int) (s10 : ev_St), ef wl_124 S s10 → efo wl_124 S (K23 x3 s10)) (fun x3 s10  h_s10 => (efo_jn (fun K47 => ∀ (x11 : Int) (x12 : Int) (s20 : ev_St), ef wl_124 S s20 → efo wl_124 S (K47 x11 x12 s20)) (fun x11 x12 s20  h_s20 => (efo_ck (fun x21 => (efo_ck (fun x22 => (efo_bd h_s20 (by decide +kernel) ef_125 (fun x24 s23 h_s23 => (efo_some h_s23)))))))) (fun K47 h_K47 => (efo_ite (efo_ite (h_K47 _ _ _  h_s10) (h_K47 _ _ _  h_s10)) (h_K47 _ _ _  h_s10))))) (fun K23 h_K23 => (efo_ite (h_K23 _ _  h_s1) (efo_ck (fun x28 => (efo_if (efo_b0 (fun x29 => (efo_b0 (fun x30 => (h_K23 _ _  h_s1)))))))))))))
def wl_210 : List (Nat × Nat × Nat) := []
theorem ef_210 {Q : Nat} {a0 : Int} {S : ev_St} : efo wl_210 S (jm_210 Q a0 S) := by
  unfold jm_210
  exact (efo_jn (fun K12 => ∀ (s3 : ev_St), ef wl_210 S s3 → efo wl_210 S (K12 s3)) (fun s3  h_s3 => (efo_jn (fun K24 => ∀ (s6 : ev_St), ef wl_210 S s6 → efo wl_210 S (K24 s6)) (fun s6  h_s6 => (efo_jn (fun K36 => ∀ (s9 : ev_St), ef wl_210 S s9 → efo wl_210 S (K36 s9)) (fun s9  h_s9 => (efo_ite (efo_some h_s9) (efo_some h_s9))) (fun K36 h_K36 => (efo_ite (h_K36 _  h_s6) (efo_ite (efo_some h_s6) (h_K36 _  h_s6)))))) (fun K24 h_K24 => (efo_ite (h_K24 _  h_s3) (efo_ite (efo_some h_s3) (h_K24 _  h_s3)))))) (fun K12 h_K12 => (efo_ite (h_K12 _  (ef_rfl)) (efo_ite (efo_some (ef_rfl)) (h_K12 _  (ef_rfl))))))
def wl_155 : List (Nat × Nat × Nat) := []
theorem ef_155 {Q : Nat} {k : Nat} {a0 : Int} {a1 : Int} {S : ev_St} : efo wl_155 S (jm_155 Q k a0 a1 S) := by
  unfold jm_155
  exact (efo_ite (efo_ite (efo_some (ef_rfl)) (efo_some (ef_rfl))) (efo_ite (efo_ite (efo_some (ef_rfl)) (efo_ck (fun x5 => (efo_bd (ef_rfl) (by decide +kernel) ef_151 (fun x7 s6 h_s6 => (efo_ite (efo_some h_s6) (efo_some h_s6))))))) (efo_ite (efo_b0 (fun x10 => (efo_ite (efo_some (ef_rfl)) (efo_some (ef_rfl))))) (efo_ite (efo_b0 (fun x13 => (efo_ite (efo_some (ef_rfl)) (efo_bd (ef_rfl) (by decide +kernel) ef_151 (fun x16 s15 h_s15 => (efo_ite (efo_some h_s15) (efo_some h_s15))))))) (efo_ite (efo_ck (fun x19 => (efo_bd (ef_rfl) (by decide +kernel) ef_151 (fun x21 s20 h_s20 => (efo_bd h_s20 (by decide +kernel) ef_210 (fun x23 s22 h_s22 => (efo_bd h_s22 (by decide +kernel) ef_151 (fun x25 s24 h_s24 => (efo_bd h_s24 (by decide +kernel) ef_210 (fun x27 s26 h_s26 => (efo_ite (efo_some h_s26) (efo_some h_s26)))))))))))) (efo_ck (fun x29 => (efo_bd (ef_rfl) (by decide +kernel) ef_151 (fun x31 s30 h_s30 => (efo_bd h_s30 (by decide +kernel) ef_210 (fun x33 s32 h_s32 => (efo_bd h_s32 (by decide +kernel) ef_151 (fun x35 s34 h_s34 => (efo_bd h_s34 (by decide +kernel) ef_210 (fun x37 s36 h_s36 => (efo_ite (efo_some h_s36) (efo_some h_s36)))))))))))))))))
def wl_129 : List (Nat × Nat × Nat) := []
theorem efb_129_7 {Q : Nat} {a0 : Int} {K7 : Int → Int → ev_St → Option ((Int) × ev_St)} {S : ev_St}  (h_K7 : ∀ (x2 : Int) (x3 : Int) (s9 : ev_St), ef wl_129 S s9 → efo wl_129 S (K7 x2 x3 s9)) : ∀ (x2 : Int) (x3 : Int) (s9 : ev_St), ef wl_129 S s9 → efo wl_129 S (jb_129_7 Q a0 K7 x2 x3 s9) := fun x2 x3 s9 h_s9 => by
  unfold jb_129_7
  exact (efo_ite (efo_some h_s9) (efo_bd h_s9 (by decide +kernel) ef_126 (fun x12 s11 h_s11 => (efo_ite (efo_some h_s11) (efo_ck (fun x14 => (efo_if (efo_b0 (fun x15 => (efo_ite (efo_if (efo_b0 (fun x17 => (efo_ck (fun x18 => (h_K7 _ _ _ h_s11)))))) (efo_some h_s11)))))))))))
theorem efl_129_7 {Q : Nat} {a0 : Int} {S : ev_St}  : ∀ (q : Nat) (x2 : Int) (x3 : Int) (s9 : ev_St), ef wl_129 S s9 → efo wl_129 S (jl_129_7 Q a0 q x2 x3 s9)
  | 0, _, _, _, _ => efo_none
  | q + 1, x2, x3, s9, h_s9 => efb_129_7  (efl_129_7  q) x2 x3 s9 h_s9
theorem ef_129 {Q : Nat} {a0 : Int} {S : ev_St} : efo wl_129 S (jm_129 Q a0 S) := by
  unfold jm_129
  exact (efo_b0 (fun x1 => (efl_129_7  _ _ _ _ (ef_rfl))))
def wl_212 : List (Nat × Nat × Nat) := []
theorem ef_212 {Q : Nat} {a0 : Int} {S : ev_St} : efo wl_212 S (jm_212 Q a0 S) := by
  unfold jm_212
  exact (efo_ite (efo_some (ef_rfl)) (efo_ite (efo_some (ef_rfl)) (efo_ck (fun x3 => (efo_some (ef_rfl))))))
def wl_137 : List (Nat × Nat × Nat) := [(0, 281, 3), (0, 281, 2)]
theorem efb_137_63 {Q : Nat} {a0 : Int} {x15 : Int} {x16 : Int} {K63 : Int → Int → ev_St → Option ((Int) × ev_St)} {S : ev_St}  (h_K63 : ∀ (x24 : Int) (x25 : Int) (s33 : ev_St), ef wl_137 S s33 → efo wl_137 S (K63 x24 x25 s33)) : ∀ (x24 : Int) (x25 : Int) (s33 : ev_St), ef wl_137 S s33 → efo wl_137 S (jb_137_63 Q a0 x15 x16 K63 x24 x25 s33) := fun x24 x25 s33 h_s33 => by
  unfold jb_137_63
  exact (efo_ite (efo_b0 (fun x35 => (efo_ck (fun x36 => (efo_bI h_s33 rfl (fun s37 h_s37 => (efo_b0 (fun r38 => (efo_if (efo_if (efo_b0 (fun x40 => (efo_bI h_s37 rfl (fun s41 h_s41 => (efo_some h_s41))))))))))))))) (efo_b0 (fun r42 => (efo_ck (fun x43 => (efo_if (efo_bd h_s33 (by decide +kernel) ef_151 (fun x46 s45 h_s45 => (efo_b0 (fun r47 => (efo_b0 (fun x48 => (efo_ck (fun x49 => (efo_if (efo_bd h_s45 (by decide +kernel) ef_151 (fun x52 s51 h_s51 => (efo_jn (fun K131 => ∀ (s60 : ev_St), ef wl_137 S s60 → efo wl_137 S (K131 s60)) (fun s60  h_s60 => (efo_ck (fun x61 => (h_K63 _ _ _ h_s60)))) (fun K131 h_K131 => (efo_ite (h_K131 _  h_s51) (efo_ite (efo_some h_s51) (efo_ite (efo_some h_s51) (efo_bd h_s51 (by decide +kernel) ef_212 (fun x66 s65 h_s65 => (efo_bd h_s65 (by decide +kernel) ef_212 (fun x68 s67 h_s67 => (efo_ite (h_K131 _  h_s67) (efo_some h_s67))))))))))))))))))))))))))))
theorem efl_137_63 {Q : Nat} {a0 : Int} {x15 : Int} {x16 : Int} {S : ev_St}  : ∀ (q : Nat) (x24 : Int) (x25 : Int) (s33 : ev_St), ef wl_137 S s33 → efo wl_137 S (jl_137_63 Q a0 x15 x16 q x24 x25 s33)
  | 0, _, _, _, _ => efo_none
  | q + 1, x24, x25, s33, h_s33 => efb_137_63  (efl_137_63  q) x24 x25 s33 h_s33
theorem ef_137 {Q : Nat} {a0 : Int} {S : ev_St} : efo wl_137 S (jm_137 Q a0 S) := by
  unfold jm_137
  exact (efo_b0 (fun r1 => (efo_if (efo_if (efo_b0 (fun x3 => (efo_bd (ef_rfl) (by decide +kernel) ef_129 (fun x5 s4 h_s4 => (efo_ite (efo_ck (fun x7 => (efo_if (efo_b0 (fun x8 => (efo_ck (fun x9 => (efo_if (efo_b0 (fun x10 => (efo_ck (fun x11 => (efo_b0 (fun r12 => (efo_if (efo_if (efo_b0 (fun x14 => (efo_jn (fun K58 => ∀ (x15 : Int) (x16 : Int) (x17 : Int) (s23 : ev_St), ef wl_137 S s23 → efo wl_137 S (K58 x15 x16 x17 s23)) (fun x15 x16 x17 s23  h_s23 => (efl_137_63  _ _ _ _ h_s23)) (fun K58 h_K58 => (efo_ite (h_K58 _ _ _ _  h_s4) (h_K58 _ _ _ _  h_s4)))))))))))))))))))))) (efo_some h_s4))))))))))
def wl_138 : List (Nat × Nat × Nat) := [(0, 281, 2)]
theorem ef_138 {Q : Nat} {a0 : Int} {S : ev_St} : efo wl_138 S (jm_138 Q a0 S) := by
  unfold jm_138
  exact (efo_b0 (fun r1 => (efo_if (efo_if (efo_b0 (fun x3 => (efo_b0 (fun r4 => (efo_if (efo_bd (ef_rfl) (by decide +kernel) ef_59 (fun x7 s6 h_s6 => (efo_jn (fun K47 => ∀ (x8 : Int) (s13 : ev_St), ef wl_138 S s13 → efo wl_138 S (K47 x8 s13)) (fun x8 s13  h_s13 => (efo_b0 (fun r14 => (efo_if (efo_bd h_s13 (by decide +kernel) ef_59 (fun x17 s16 h_s16 => (efo_ite (efo_b0 (fun r19 => (efo_if (efo_if (efo_b0 (fun x21 => (efo_bI h_s16 rfl (fun s22 h_s22 => (efo_some h_s22))))))))) (efo_b0 (fun r23 => (efo_if (efo_if (efo_b0 (fun x25 => (efo_bI h_s16 rfl (fun s26 h_s26 => (efo_some h_s26)))))))))))))))) (fun K47 h_K47 => (efo_ite (h_K47 _ _  h_s6) (efo_b0 (fun r28 => (efo_if (efo_if (efo_b0 (fun x30 => (efo_bd h_s6 (by decide +kernel) ef_129 (fun x32 s31 h_s31 => (efo_ite (h_K47 _ _  h_s31) (efo_b0 (fun r34 => (efo_if (efo_if (efo_b0 (fun x36 => (h_K47 _ _  h_s31))))))))))))))))))))))))))))))
def wl_127 : List (Nat × Nat × Nat) := []
theorem ef_127 {Q : Nat} {S : ev_St} : efo wl_127 S (jm_127 Q S) := by
  unfold jm_127
  exact (efo_b0 (fun x1 => (efo_bd (ef_rfl) (by decide +kernel) ef_126 (fun x3 s2 h_s2 => (efo_ite (efo_some h_s2) (efo_b0 (fun x5 => (efo_ck (fun x6 => (efo_if (efo_b0 (fun x7 => (efo_if (efo_b0 (fun x8 => (efo_if (efo_b0 (fun x9 => (efo_some h_s2)))))))))))))))))))
def wl_139 : List (Nat × Nat × Nat) := [(0, 282, 999999), (0, 281, 7), (0, 281, 4), (0, 281, 2)]
theorem ef_139 {Q : Nat} {a0 : Int} {S : ev_St} : efo wl_139 S (jm_139 Q a0 S) := by
  unfold jm_139
  exact (efo_b0 (fun r1 => (efo_if (efo_if (efo_b0 (fun x3 => (efo_jn (fun K33 => ∀ (x4 : Int) (s8 : ev_St), ef wl_139 S s8 → efo wl_139 S (K33 x4 s8)) (fun x4 s8  h_s8 => (efo_bd h_s8 (by decide +kernel) ef_127 (fun x10 s9 h_s9 => (efo_ite (efo_some h_s9) (efo_b0 (fun r12 => (efo_if (efo_bd h_s9 (by decide +kernel) ef_59 (fun x15 s14 h_s14 => (efo_ite (efo_b0 (fun x17 => (efo_b0 (fun r18 => (efo_if (efo_if (efo_b0 (fun x20 => (efo_b0 (fun x21 => (efo_bd h_s14 (by decide +kernel) ef_124 (fun x23 s22 h_s22 => (efo_bI h_s22 rfl (fun s24 h_s24 => (efo_b0 (fun r25 => (efo_if (efo_if (efo_b0 (fun x27 => (efo_bI h_s24 rfl (fun s28 h_s28 => (efo_some h_s28))))))))))))))))))))))) (efo_some h_s14))))))))))) (fun K33 h_K33 => (efo_jn (fun K32 => ∀ (s32 : ev_St), ef wl_139 S s32 → efo wl_139 S (K32 s32)) (fun s32  h_s32 => (h_K33 _ _  h_s32)) (fun K32 h_K32 => (efo_ite (h_K32 _  (ef_rfl)) (efo_ite (h_K32 _  (ef_rfl)) (efo_b0 (fun r35 => (efo_if (efo_if (efo_b0 (fun x37 => (h_K33 _ _  (ef_rfl))))))))))))))))))))
def wl_130 : List (Nat × Nat × Nat) := [(0, 283, 999999), (0, 281, 9)]
theorem ef_130 {Q : Nat} {a0 : Int} {a1 : Int} {a2 : Int} {S : ev_St} : efo wl_130 S (jm_130 Q a0 a1 a2 S) := by
  unfold jm_130
  exact (efo_b0 (fun x1 => (efo_ck (fun x2 => (efo_b0 (fun x3 => (efo_ite (efo_some (ef_rfl)) (efo_ck (fun x5 => (efo_b0 (fun x6 => (efo_ite (efo_if (efo_bI (ef_rfl) rfl (fun s8 h_s8 => (efo_ck (fun x9 => (efo_if (efo_bI h_s8 rfl (fun s10 h_s10 => (efo_ck (fun x11 => (efo_b0 (fun x12 => (efo_if (efo_bI h_s10 rfl (fun s13 h_s13 => (efo_ck (fun x14 => (efo_if (efo_bI h_s13 rfl (fun s15 h_s15 => (efo_ck (fun x16 => (efo_b0 (fun x17 => (efo_if (efo_bI h_s15 rfl (fun s18 h_s18 => (efo_ck (fun x19 => (efo_b0 (fun x20 => (efo_if (efo_bI h_s18 rfl (fun s21 h_s21 => (efo_b0 (fun x22 => (efo_ck (fun x23 => (efo_bI h_s21 rfl (fun s24 h_s24 => (efo_some h_s24))))))))))))))))))))))))))))))))))))))))) (efo_some (ef_rfl))))))))))))))
def wl_143 : List (Nat × Nat × Nat) := [(0, 283, 999999), (0, 281, 9), (0, 281, 4), (0, 281, 2)]
theorem ef_143 {Q : Nat} {a0 : Int} {S : ev_St} : efo wl_143 S (jm_143 Q a0 S) := by
  unfold jm_143
  exact (efo_b0 (fun x1 => (efo_bd (ef_rfl) (by decide +kernel) ef_126 (fun x3 s2 h_s2 => (efo_ite (efo_b0 (fun x5 => (efo_ck (fun x6 => (efo_if (efo_b0 (fun x7 => (efo_b0 (fun x8 => (efo_if (efo_b0 (fun x9 => (efo_b0 (fun r10 => (efo_if (efo_if (efo_b0 (fun x12 => (efo_b0 (fun r13 => (efo_if (efo_if (efo_b0 (fun x15 => (efo_ite (efo_jn (fun K104 => ∀ (s21 : ev_St), ef wl_143 S s21 → efo wl_143 S (K104 s21)) (fun s21  h_s21 => (efo_b0 (fun r22 => (efo_if (efo_if (efo_b0 (fun x24 => (efo_ite (efo_ck (fun x26 => (efo_ck (fun x27 => (efo_b0 (fun x28 => (efo_bd h_s21 (by decide +kernel) ef_130 (fun _ s29 h_s29 => (efo_bI h_s29 rfl (fun s30 h_s30 => (efo_b0 (fun r31 => (efo_if (efo_if (efo_b0 (fun x33 => (efo_bI h_s30 rfl (fun s34 h_s34 => (efo_some h_s34))))))))))))))))))) (efo_b0 (fun r35 => (efo_if (efo_if (efo_b0 (fun x37 => (efo_bd h_s21 (by decide +kernel) ef_130 (fun _ s38 h_s38 => (efo_ck (fun x39 => (efo_ck (fun x40 => (efo_bI h_s38 rfl (fun s41 h_s41 => (efo_some h_s41))))))))))))))))))))))) (fun K104 h_K104 => (efo_ite (h_K104 _  h_s2) (efo_ite (h_K104 _  h_s2) (efo_bI h_s2 rfl (fun s44 h_s44 => (efo_b0 (fun r45 => (efo_if (efo_if (efo_b0 (fun x47 => (efo_bI h_s44 rfl (fun s48 h_s48 => (efo_some h_s48))))))))))))))) (efo_ck (fun x49 => (efo_ck (fun x50 => (efo_bI h_s2 rfl (fun s51 h_s51 => (efo_some h_s51)))))))))))))))))))))))))))))))) (efo_some h_s2))))))
def wl_128 : List (Nat × Nat × Nat) := []
theorem ef_128 {Q : Nat} {S : ev_St} : efo wl_128 S (jm_128 Q S) := by
  unfold jm_128
  exact (efo_b0 (fun x1 => (efo_bd (ef_rfl) (by decide +kernel) ef_126 (fun x3 s2 h_s2 => (efo_ite (efo_some h_s2) (efo_b0 (fun x5 => (efo_ck (fun x6 => (efo_if (efo_b0 (fun x7 => (efo_if (efo_b0 (fun x8 => (efo_some h_s2))))))))))))))))
def wl_140 : List (Nat × Nat × Nat) := [(0, 282, 999999), (0, 281, 7), (0, 281, 4), (0, 283, 999999), (0, 281, 9), (0, 281, 2)]
theorem ef_140 {Q : Nat} {a0 : Int} {S : ev_St} : efo wl_140 S (jm_140 Q a0 S) := by
  unfold jm_140
  exact (efo_bd (ef_rfl) (by decide +kernel) ef_128 (fun x2 s1 h_s1 => (efo_ite (efo_b0 (fun x4 => (efo_b0 (fun x5 => (efo_b0 (fun x6 => (efo_bd h_s1 (by decide +kernel) ef_124 (fun x8 s7 h_s7 => (efo_bI h_s7 rfl (fun s9 h_s9 => (efo_ck (fun x10 => (efo_b0 (fun x11 => (efo_bd h_s9 (by decide +kernel) ef_130 (fun _ s12 h_s12 => (efo_b0 (fun r13 => (efo_if (efo_if (efo_b0 (fun x15 => (efo_bI h_s12 rfl (fun s16 h_s16 => (efo_some h_s16))))))))))))))))))))))))) (efo_some h_s1))))
def wl_136 : List (Nat × Nat × Nat) := [(0, 281, 14), (0, 281, 10), (0, 281, 2), (0, 281, 3), (0, 282, 999999), (0, 281, 7), (0, 281, 4), (0, 283, 999999), (0, 281, 9)]
theorem ef_136 {Q : Nat} {a0 : Int} {S : ev_St} : efo wl_136 S (jm_136 Q a0 S) := by
  unfold jm_136
  exact (efo_b0 (fun r1 => (efo_if (efo_if (efo_b0 (fun x3 => (efo_ite (efo_ite (efo_bd (ef_rfl) (by decide +kernel) ef_123 (fun x7 s6 h_s6 => (efo_ite (efo_bd h_s6 (by decide +kernel) ef_61 (fun x10 s9 h_s9 => (efo_ite (efo_ite (efo_b0 (fun r13 => (efo_if (efo_if (efo_b0 (fun x15 => (efo_bI h_s9 rfl (fun s16 h_s16 => (efo_b0 (fun x17 => (efo_ck (fun x18 => (efo_bI h_s16 rfl (fun s19 h_s19 => (efo_b0 (fun r20 => (efo_if (efo_if (efo_b0 (fun y22 => (efo_b0 (fun r23 => (efo_if (efo_if (efo_b0 (fun y25 => (efo_b0 (fun r26 => (efo_b0 (fun x27 => (efo_ck (fun x28 => (efo_if (efo_bd h_s19 (by decide +kernel) ef_151 (fun x31 s30 h_s30 => (efo_bd h_s30 (by decide +kernel) ef_214 (fun x33 s32 h_s32 => (efo_if (efo_some h_s32))))))))))))))))))))))))))))))))))))))) (efo_ite (efo_bd h_s9 (by decide +kernel) ef_140 (fun x37 s36 h_s36 => (efo_if (efo_some h_s36)))) (efo_ite (efo_bd h_s9 (by decide +kernel) ef_137 (fun x41 s40 h_s40 => (efo_if (efo_some h_s40)))) (efo_ite (efo_bd h_s9 (by decide +kernel) ef_138 (fun x45 s44 h_s44 => (efo_if (efo_some h_s44)))) (efo_ite (efo_bd h_s9 (by decide +kernel) ef_139 (fun x49 s48 h_s48 => (efo_if (efo_some h_s48)))) (efo_ite (efo_some h_s9) (efo_ite (efo_jn (fun K280 => ∀ (x53 : Int) (s57 : ev_St), ef wl_136 S s57 → efo wl_136 S (K280 x53 s57)) (fun x53 s57  h_s57 => (efo_b0 (fun x58 => (efo_bd h_s57 (by decide +kernel) ef_130 (fun _ s59 h_s59 => (efo_b0 (fun r60 => (efo_if (efo_if (efo_b0 (fun x62 => (efo_bI h_s59 rfl (fun s63 h_s63 => (efo_some h_s63)))))))))))))) (fun K280 h_K280 => (efo_ite (h_K280 _ _  h_s9) (h_K280 _ _  h_s9)))) (efo_ite (efo_b0 (fun x66 => (efo_b0 (fun x67 => (efo_bd h_s9 (by decide +kernel) ef_124 (fun x69 s68 h_s68 => (efo_bI h_s68 rfl (fun s70 h_s70 => (efo_bd h_s70 (by decide +kernel) ef_143 (fun x72 s71 h_s71 => (efo_if (efo_some h_s71)))))))))))) (efo_ite (efo_b0 (fun r75 => (efo_if (efo_if (efo_b0 (fun x77 => (efo_jn (fun K361 => ∀ (s81 : ev_St), ef wl_136 S s81 → efo wl_136 S (K361 s81)) (fun s81  h_s81 => (efo_b0 (fun r82 => (efo_if (efo_if (efo_b0 (fun x84 => (efo_bI h_s81 rfl (fun s85 h_s85 => (efo_some h_s85)))))))))) (fun K361 h_K361 => (efo_ite (h_K361 _  h_s9) (efo_b0 (fun r87 => (efo_if (efo_if (efo_b0 (fun x89 => (efo_ck (fun x90 => (efo_ck (fun x91 => (efo_b0 (fun x92 => (efo_bd h_s9 (by decide +kernel) ef_130 (fun _ s93 h_s93 => (h_K361 _  h_s93)))))))))))))))))))))))) (efo_bd h_s9 (by decide +kernel) ef_140 (fun x95 s94 h_s94 => (efo_if (efo_some h_s94))))))))))))) (efo_b0 (fun r97 => (efo_if (efo_if (efo_b0 (fun x99 => (efo_bI h_s9 rfl (fun s100 h_s100 => (efo_b0 (fun r101 => (efo_b0 (fun x102 => (efo_if (efo_bd h_s100 (by decide +kernel) ef_155 (fun x105 s104 h_s104 => (efo_if (efo_some h_s104)))))))))))))))))))) (efo_some h_s6)))) (efo_b0 (fun x107 => (efo_b0 (fun x108 => (efo_bd (ef_rfl) (by decide +kernel) ef_124 (fun x110 s109 h_s109 => (efo_bI h_s109 rfl (fun s111 h_s111 => (efo_b0 (fun r112 => (efo_if (efo_if (efo_b0 (fun x114 => (efo_bI h_s111 rfl (fun s115 h_s115 => (efo_some h_s115)))))))))))))))))) (efo_b0 (fun r116 => (efo_if (efo_if (efo_b0 (fun x118 => (efo_bI (ef_rfl) rfl (fun s119 h_s119 => (efo_some h_s119))))))))))))))))
def wl_145 : List (Nat × Nat × Nat) := [(0, 282, 999999), (0, 281, 7), (0, 281, 4), (0, 283, 999999), (0, 281, 9), (0, 281, 2)]
theorem ef_145 {Q : Nat} {a0 : Int} {S : ev_St} : efo wl_145 S (jm_145 Q a0 S) := by
  unfold jm_145
  exact (efo_b0 (fun x1 => (efo_ck (fun x2 => (efo_if (efo_b0 (fun x3 => (efo_b0 (fun r4 => (efo_if (efo_if (efo_b0 (fun x6 => (efo_jn (fun K43 => ∀ (x7 : Int) (x8 : Int) (s13 : ev_St), ef wl_145 S s13 → efo wl_145 S (K43 x7 x8 s13)) (fun x7 x8 s13  h_s13 => (efo_jn (fun K68 => ∀ (s18 : ev_St), ef wl_145 S s18 → efo wl_145 S (K68 s18)) (fun s18  h_s18 => (efo_b0 (fun x19 => (efo_if (efo_b0 (fun x20 => (efo_ck (fun x21 => (efo_b0 (fun x22 => (efo_bd h_s18 (by decide +kernel) ef_124 (fun x24 s23 h_s23 => (efo_bI h_s23 rfl (fun s25 h_s25 => (efo_bd h_s25 (by decide +kernel) ef_143 (fun x27 s26 h_s26 => (efo_if (efo_some h_s26)))))))))))))))))) (fun K68 h_K68 => (efo_ite (h_K68 _  h_s13) (efo_b0 (fun x30 => (efo_b0 (fun x31 => (efo_ck (fun x32 => (efo_if (efo_b0 (fun x33 => (efo_ite (h_K68 _  h_s13) (efo_some h_s13))))))))))))))) (fun K43 h_K43 => (efo_jn (fun K42 => ∀ (x35 : Int) (s40 : ev_St), ef wl_145 S s40 → efo wl_145 S (K42 x35 s40)) (fun x35 s40  h_s40 => (h_K43 _ _ _  h_s40)) (fun K42 h_K42 => (efo_ite (h_K42 _ _  (ef_rfl)) (efo_b0 (fun r42 => (efo_if (efo_if (efo_b0 (fun x44 => (efo_ite (h_K42 _ _  (ef_rfl)) (h_K43 _ _ _  (ef_rfl)))))))))))))))))))))))))))
def wl_142 : List (Nat × Nat × Nat) := [(0, 281, 9), (0, 281, 3), (0, 281, 4), (0, 281, 2)]
theorem ef_142 {Q : Nat} {a0 : Int} {S : ev_St} : efo wl_142 S (jm_142 Q a0 S) := by
  unfold jm_142
  exact (efo_b0 (fun r1 => (efo_if (efo_if (efo_b0 (fun x3 => (efo_b0 (fun x4 => (efo_ck (fun x5 => (efo_if (efo_b0 (fun x6 => (efo_jn (fun K38 => ∀ (x7 : Int) (x8 : Int) (s14 : ev_St), ef wl_142 S s14 → efo wl_142 S (K38 x7 x8 s14)) (fun x7 x8 s14  h_s14 => (efo_b0 (fun x15 => (efo_ck (fun x16 => (efo_if (efo_b0 (fun x17 => (efo_bI h_s14 rfl (fun s18 h_s18 => (efo_ite (efo_some h_s18) (efo_ite (efo_jn (fun K82 => ∀ (x21 : Int) (s25 : ev_St), ef wl_142 S s25 → efo wl_142 S (K82 x21 s25)) (fun x21 s25  h_s25 => (efo_bI h_s25 rfl (fun s26 h_s26 => (efo_b0 (fun x27 => (efo_if (efo_b0 (fun x28 => (efo_bI h_s26 rfl (fun s29 h_s29 => (efo_b0 (fun r30 => (efo_if (efo_if (efo_b0 (fun x32 => (efo_bI h_s29 rfl (fun s33 h_s33 => (efo_some h_s33))))))))))))))))))) (fun K82 h_K82 => (efo_ite (h_K82 _ _  h_s18) (efo_b0 (fun x35 => (h_K82 _ _  h_s18)))))) (efo_some h_s18))))))))))))) (fun K38 h_K38 => (efo_ite (h_K38 _ _ _  (ef_rfl)) (efo_b0 (fun x37 => (efo_ite (h_K38 _ _ _  (ef_rfl)) (efo_some (ef_rfl)))))))))))))))))))))
def wl_141 : List (Nat × Nat × Nat) := [(0, 281, 2), (0, 282, 999999), (0, 281, 7), (0, 281, 4), (0, 283, 999999), (0, 281, 9), (0, 281, 5), (0, 281, 3)]
theorem ef_141 {Q : Nat} {a0 : Int} {S : ev_St} : efo wl_141 S (jm_141 Q a0 S) := by
  unfold jm_141
  exact (efo_b0 (fun r1 => (efo_if (efo_if (efo_b0 (fun x3 => (efo_jn (fun K22 => ∀ (s7 : ev_St), ef wl_141 S s7 → efo wl_141 S (K22 s7)) (fun s7  h_s7 => (efo_b0 (fun r8 => (efo_if (efo_if (efo_b0 (fun x10 => (efo_bI h_s7 rfl (fun s11 h_s11 => (efo_some h_s11)))))))))) (fun K22 h_K22 => (efo_ite (h_K22 _  (ef_rfl)) (efo_ite (efo_b0 (fun x14 => (efo_bd (ef_rfl) (by decide +kernel) ef_126 (fun x16 s15 h_s15 => (efo_ite (efo_jn (fun K62 => ∀ (s21 : ev_St), ef wl_141 S s21 → efo wl_141 S (K62 s21)) (fun s21  h_s21 => (efo_bd h_s21 (by decide +kernel) ef_145 (fun x23 s22 h_s22 => (efo_if (efo_some h_s22))))) (fun K62 h_K62 => (efo_ite (h_K62 _  h_s15) (efo_ite (efo_ite (efo_b0 (fun x28 => (efo_ck (fun x29 => (efo_if (efo_b0 (fun x30 => (efo_b0 (fun x31 => (efo_jn (fun K180 => ∀ (s34 : ev_St), ef wl_141 S s34 → efo wl_141 S (K180 s34)) (fun s34  h_s34 => (efo_b0 (fun x35 => (efo_if (efo_b0 (fun x36 => (efo_bI h_s34 rfl (fun s37 h_s37 => (efo_some h_s37))))))))) (fun K180 h_K180 => (efo_ite (efo_b0 (fun x39 => (efo_b0 (fun r40 => (efo_if (efo_if (efo_b0 (fun x42 => (efo_b0 (fun x43 => (efo_ck (fun x44 => (efo_if (efo_b0 (fun x45 => (efo_b0 (fun x46 => (efo_bd h_s15 (by decide +kernel) ef_125 (fun x48 s47 h_s47 => (efo_bI h_s47 rfl (fun s49 h_s49 => (efo_b0 (fun r50 => (efo_if (efo_if (efo_b0 (fun x52 => (efo_bI h_s49 rfl (fun s53 h_s53 => (h_K180 _  h_s53)))))))))))))))))))))))))))))) (efo_b0 (fun x54 => (efo_ck (fun x55 => (efo_if (efo_b0 (fun x56 => (efo_bI h_s15 rfl (fun s57 h_s57 => (efo_b0 (fun x58 => (efo_ck (fun x59 => (efo_if (efo_b0 (fun x60 => (efo_bI h_s57 rfl (fun s61 h_s61 => (h_K180 _  h_s61))))))))))))))))))))))))))))))) (efo_bd h_s15 (by decide +kernel) ef_142 (fun x63 s62 h_s62 => (efo_if (efo_some h_s62))))) (h_K62 _  h_s15))))) (efo_some h_s15)))))) (h_K22 _  (ef_rfl))))))))))))
def wl_144 : List (Nat × Nat × Nat) := [(0, 281, 2), (0, 281, 14), (0, 281, 10)]
theorem ef_144 {Q : Nat} {a0 : Int} {S : ev_St} : efo wl_144 S (jm_144 Q a0 S) := by
  unfold jm_144
  exact (efo_b0 (fun r1 => (efo_if (efo_if (efo_b0 (fun x3 => (efo_ck (fun x4 => (efo_ck (fun x5 => (efo_bI (ef_rfl) rfl (fun s6 h_s6 => (efo_bd h_s6 (by decide +kernel) ef_123 (fun x8 s7 h_s7 => (efo_if (efo_some h_s7))))))))))))))))
def wl_122 : List (Nat × Nat × Nat) := [(0, 281, 11), (0, 281, 3), (0, 281, 4), (0, 281, 5), (0, 281, 7), (0, 281, 9), (0, 281, 2), (0, 281, 10), (0, 281, 14), (0, 282, 999999), (0, 283, 999999), (0, 281, 12), (0, 281, 13)]
theorem efb_122_74 {Q : Nat} {K74 : Int → Int → ev_St → Option ((Int) × ev_St)} {S : ev_St}  (h_K74 : ∀ (x20 : Int) (x21 : Int) (s26 : ev_St), ef wl_122 S s26 → efo wl_122 S (K74 x20 x21 s26)) : ∀ (x20 : Int) (x21 : Int) (s26 : ev_St), ef wl_122 S s26 → efo wl_122 S (jb_122_74 Q K74 x20 x21 s26) := fun x20 x21 s26 h_s26 => by
  unfold jb_122_74
  exact (efo_ite (efo_bI h_s26 rfl (fun s28 h_s28 => (efo_some h_s28))) (efo_jn (fun K98 => ∀ (s32 : ev_St), ef wl_122 S s32 → efo wl_122 S (K98 s32)) (fun s32  h_s32 => (efo_b0 (fun x33 => (efo_b0 (fun x34 => (efo_b0 (fun x35 => (efo_b0 (fun x36 => (efo_b0 (fun r37 => (efo_if (efo_bd h_s32 (by decide +kernel) ef_59 (fun x40 s39 h_s39 => (efo_ite (efo_jn (fun K163 => ∀ (s47 : ev_St), ef wl_122 S s47 → efo wl_122 S (K163 s47)) (fun s47  h_s47 => (efo_jn (fun K198 => ∀ (x48 : Int) (s52 : ev_St), ef wl_122 S s52 → efo wl_122 S (K198 x48 s52)) (fun x48 s52  h_s52 => (efo_b0 (fun x53 => (efo_ite (efo_ck (fun x55 => (h_K74 _ _ _ h_s52))) (efo_some h_s52))))) (fun K198 h_K198 => (efo_ite (efo_ite (efo_bd h_s47 (by decide +kernel) ef_144 (fun x59 s58 h_s58 => (h_K198 _ _  h_s58))) (efo_bd h_s47 (by decide +kernel) ef_141 (fun x61 s60 h_s60 => (h_K198 _ _  h_s60)))) (efo_bd h_s47 (by decide +kernel) ef_136 (fun x63 s62 h_s62 => (h_K198 _ _  h_s62))))))) (fun K163 h_K163 => (efo_ite (h_K163 _  h_s39) (efo_b0 (fun r65 => (efo_if (efo_bd h_s39 (by decide +kernel) ef_60 (fun x68 s67 h_s67 => (efo_ite (h_K163 _  h_s67) (efo_b0 (fun x70 => (efo_ite (h_K163 _  h_s67) (efo_b0 (fun x72 => (efo_bI h_s67 rfl (fun s73 h_s73 => (efo_some h_s73))))))))))))))))) (efo_some h_s39)))))))))))))))) (fun K98 h_K98 => (efo_ite (h_K98 _  h_s26) (efo_bd h_s26 (by decide +kernel) ef_131 (fun x76 s75 h_s75 => (efo_ite (h_K98 _  h_s75) (efo_some h_s75))))))))
theorem efl_122_74 {Q : Nat} {S : ev_St}  : ∀ (q : Nat) (x20 : Int) (x21 : Int) (s26 : ev_St), ef wl_122 S s26 → efo wl_122 S (jl_122_74 Q q x20 x21 s26)
  | 0, _, _, _, _ => efo_none
  | q + 1, x20, x21, s26, h_s26 => efb_122_74  (efl_122_74  q) x20 x21 s26 h_s26
theorem ef_122 {Q : Nat} {a0 : Int} {S : ev_St} : efo wl_122 S (jm_122 Q a0 S) := by
  unfold jm_122
  exact (efo_bI (ef_rfl) rfl (fun s1 h_s1 => (efo_bI h_s1 rfl (fun s2 h_s2 => (efo_bI h_s2 rfl (fun s3 h_s3 => (efo_bI h_s3 rfl (fun s4 h_s4 => (efo_bI h_s4 rfl (fun s5 h_s5 => (efo_bI h_s5 rfl (fun s6 h_s6 => (efo_b0 (fun r7 => (efo_b0 (fun r8 => (efo_if (efo_bd h_s6 (by decide +kernel) ef_60 (fun x11 s10 h_s10 => (efo_if (efo_bd h_s10 (by decide +kernel) ef_59 (fun x14 s13 h_s13 => (efo_jn (fun K67 => ∀ (x15 : Int) (s18 : ev_St), ef wl_122 S s18 → efo wl_122 S (K67 x15 s18)) (fun x15 s18  h_s18 => (efo_bI h_s18 rfl (fun s19 h_s19 => (efl_122_74  _ _ _ _ h_s19)))) (fun K67 h_K67 => (efo_ite (h_K67 _ _  h_s13) (efo_b0 (fun r79 => (efo_if (efo_b0 (fun r81 => (efo_if (efo_bd h_s13 (by decide +kernel) ef_60 (fun x84 s83 h_s83 => (efo_if (efo_b0 (fun x85 => (h_K67 _ _  h_s83)))))))))))))))))))))))))))))))))))))
def wl_115 : List (Nat × Nat × Nat) := [(2, 281, 0), (2, 281, 1), (0, 281, 14), (0, 281, 10), (0, 281, 11), (0, 281, 3), (0, 281, 4), (0, 281, 5), (0, 281, 7), (0, 281, 9), (0, 281, 2), (0, 282, 999999), (0, 283, 999999), (0, 281, 12), (0, 281, 13)]
theorem efb_115_12 {Q : Nat} {K12 : Int → Int → ev_St → Option ((Int) × ev_St)} {S : ev_St}  (h_K12 : ∀ (x2 : Int) (x3 : Int) (s8 : ev_St), ef wl_115 S s8 → efo wl_115 S (K12 x2 x3 s8)) : ∀ (x2 : Int) (x3 : Int) (s8 : ev_St), ef wl_115 S s8 → efo wl_115 S (jb_115_12 Q K12 x2 x3 s8) := fun x2 x3 s8 h_s8 => by
  unfold jb_115_12
  exact (efo_ite (efo_some h_s8) (efo_b0 (fun r10 => (efo_if (efo_b0 (fun x12 => (efo_ite (efo_some h_s8) (efo_bd h_s8 (by decide +kernel) ef_122 (fun x15 s14 h_s14 => (efo_b0 (fun x16 => (efo_ite (efo_ite (efo_ite (efo_jn (fun K104 => ∀ (x20 : Int) (s24 : ev_St), ef wl_115 S s24 → efo wl_115 S (K104 x20 s24)) (fun x20 s24  h_s24 => (efo_ck (fun x25 => (h_K12 _ _ _ h_s24)))) (fun K104 h_K104 => (efo_jn (fun K100 => ∀ (s30 : ev_St), ef wl_115 S s30 → efo wl_115 S (K100 s30)) (fun s30  h_s30 => (efo_ck (fun x31 => (h_K104 _ _  h_s30)))) (fun K100 h_K100 => (efo_ite (h_K100 _  h_s14) (efo_b0 (fun x33 => (efo_ite (h_K100 _  h_s14) (efo_b0 (fun x35 => (h_K104 _ _  h_s14))))))))))) (efo_some h_s14)) (efo_b0 (fun x36 => (efo_ck (fun x37 => (efo_b0 (fun x38 => (efo_ck (fun x39 => (efo_some h_s14)))))))))) (efo_some h_s14)))))))))))))
theorem efl_115_12 {Q : Nat} {S : ev_St}  : ∀ (q : Nat) (x2 : Int) (x3 : Int) (s8 : ev_St), ef wl_115 S s8 → efo wl_115 S (jl_115_12 Q q x2 x3 s8)
  | 0, _, _, _, _ => efo_none
  | q + 1, x2, x3, s8, h_s8 => efb_115_12  (efl_115_12  q) x2 x3 s8 h_s8
theorem ef_115 {Q : Nat} {a0 : Nat} {a1 : Nat} {a2 : Int} {S : ev_St} : efo wl_115 S (jm_115 Q a0 a1 a2 S) := by
  unfold jm_115
  exact (efo_bd (ef_rfl) (by decide +kernel) ef_121 (fun _ s1 h_s1 => (efl_115_12  _ _ _ _ h_s1)))
def wl_209 : List (Nat × Nat × Nat) := []
theorem ef_209 {Q : Nat} {a0 : Int} {S : ev_St} : efo wl_209 S (jm_209 Q a0 S) := by
  unfold jm_209
  exact (efo_ite (efo_some (ef_rfl)) (efo_ite (efo_some (ef_rfl)) (efo_some (ef_rfl))))
