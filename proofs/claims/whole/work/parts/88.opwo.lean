/-! FACTS: which engines a pattern has, the reference's side, and both -/
section FACTE2
variable {Q k b e N M m t o p i : Nat} {φ ψ own up : Nat → Nat} {W : Nat → FV} {S T U V : ev_St} {β : Type}
theorem sp_222e {x lo hi : Int} : jm_222 Q x lo hi U = some (if lo ≤ x ∧ x ≤ hi then 1 else 0, U) := by
  unfold jm_222
  by_cases a : x < lo
  · rw [if_pos a, if_neg (by omega)]
  · by_cases c : hi < x
    · rw [if_neg a, if_pos c, if_neg (by omega)]
    · rw [if_neg a, if_neg c, if_pos (by omega)]
/-- a node that threads take, by the reference -/
def okR (g : Nat) (U : ev_St) : Prop := (U.1 625 g < 7 ∨ U.1 625 g = 8 ∨ U.1 625 g = 9 ∨ U.1 625 g = 18) ∧ U.1 630 g ≠ 2 ∧ (U.1 630 g = -1 ∨ U.1 632 g ≠ -1 ∨ 0 < U.1 640 g)
def edR (g : Nat) (U : ev_St) : Prop := 1 ≤ U.1 625 g ∧ U.1 625 g ≤ 6
theorem st269_101 {JJ : Int → ev_St → Option β} {x25 : Int} {g : Nat} (hg : g < 4160) (h : U.1 625 g = x25) : ev_jn JJ (fun K101 => ev_jn (fun  (s90 : ev_St) => K101 1 s90) fun K96 => if x25 < 7 then (K96  U) else (ev_if ((0 : Int) ≤ (g:Int) ∧ (g:Int) < (ev_aln 625 : Int)) (ev_b (U.1 625 g) fun x92 => if x92 = 8 then (K96  U) else (ev_if ((0 : Int) ≤ (g:Int) ∧ (g:Int) < (ev_aln 625 : Int)) (ev_b (U.1 625 g) fun x94 => if x94 = 9 then (K96  U) else (ev_if ((0 : Int) ≤ (g:Int) ∧ (g:Int) < (ev_aln 625 : Int)) (ev_b (U.1 625 g) fun x96 => if x96 ≠ 18 then (K101 0 U) else (K96  U)))))))) = JJ (if x25 < 7 ∨ x25 = 8 ∨ x25 = 9 ∨ x25 = 18 then 1 else 0) U := by
  obtain ⟨l25, _⟩ := al_K
  rw [sp_jn, sp_jn]
  by_cases a : x25 < 7
  · rw [if_pos a, if_pos (Or.inl a)]
  · rw [if_neg a, sp_if (by rw [l25]; omega), sp_b, h]
    by_cases c : x25 = 8
    · rw [if_pos c, if_pos (Or.inr (Or.inl c))]
    · rw [if_neg c, sp_if (by rw [l25]; omega), sp_b]
      by_cases d : x25 = 9
      · rw [if_pos d, if_pos (Or.inr (Or.inr (Or.inl d)))]
      · rw [if_neg d, sp_if (by rw [l25]; omega), sp_b]
        by_cases f : x25 = 18
        · rw [if_neg (fun z => z f), if_pos (Or.inr (Or.inr (Or.inr f)))]
        · rw [if_pos f, if_neg (by omega)]
theorem st269_160 {JJ : Int → ev_St → Option β} {x9 x26 : Int} {g : Nat} (hg : g < 4160) (hw : (x26 = 1 ∧ (U.1 625 g < 7 ∨ U.1 625 g = 8 ∨ U.1 625 g = 9 ∨ U.1 625 g = 18)) ∨ (x26 = 0 ∧ ¬ (U.1 625 g < 7 ∨ U.1 625 g = 8 ∨ U.1 625 g = 9 ∨ U.1 625 g = 18))) : ∃ v : Int, ev_jn JJ (fun K160 => ev_jn (fun  (s67 : ev_St) => K160 0 s67) fun K159 => if x9 = 0 then (K159  U) else (if x26 = 0 then (K159  U) else (ev_if ((0 : Int) ≤ (g:Int) ∧ (g:Int) < (ev_aln 630 : Int)) (ev_b (U.1 630 g) fun x70 => if x70 = 2 then (K159  U) else (ev_if ((0 : Int) ≤ (g:Int) ∧ (g:Int) < (ev_aln 630 : Int)) (ev_b (U.1 630 g) fun x72 => ev_jn (fun  (s78 : ev_St) => K160 1 s78) fun K155 => if x72 = (-1) then (K155  U) else (ev_if ((0 : Int) ≤ (g:Int) ∧ (g:Int) < (ev_aln 632 : Int)) (ev_b (U.1 632 g) fun x80 => if x80 ≠ (-1) then (K155  U) else (ev_if ((0 : Int) ≤ (g:Int) ∧ (g:Int) < (ev_aln 640 : Int)) (ev_b (U.1 640 g) fun x82 => if x82 ≤ 0 then (K159  U) else (K155  U))))))))))) = JJ v U ∧ ((v = 1 ∧ x9 ≠ 0 ∧ okR g U) ∨ (v = 0 ∧ ¬ (x9 ≠ 0 ∧ okR g U))) := by
  obtain ⟨l25, l26, l27, l28, l29, l30, l31, l32, _⟩ := al_K
  obtain ⟨l40, _⟩ := al_F
  unfold okR
  rw [sp_jn, sp_jn]
  by_cases a : x9 = 0
  · exact ⟨0, by rw [if_pos a], Or.inr ⟨rfl, fun z => z.1 a⟩⟩
  · rw [if_neg a]
    by_cases c : x26 = 0
    · exact ⟨0, by rw [if_pos c], Or.inr ⟨rfl, fun z => by omega⟩⟩
    · rw [if_neg c, sp_if (by rw [l30]; omega), sp_b]
      by_cases d : U.1 630 g = 2
      · exact ⟨0, by rw [if_pos d], Or.inr ⟨rfl, fun z => z.2.2.1 d⟩⟩
      · rw [if_neg d, sp_if (by rw [l30]; omega), sp_b, sp_jn]
        by_cases f : U.1 630 g = -1
        · exact ⟨1, by rw [if_pos f], Or.inl ⟨rfl, a, by omega, d, Or.inl f⟩⟩
        · rw [if_neg f, sp_if (by rw [l32]; omega), sp_b]
          by_cases j : U.1 632 g = -1
          · rw [if_neg (fun z => z j), sp_if (by rw [l40]; omega), sp_b]
            by_cases n : U.1 640 g ≤ 0
            · exact ⟨0, by rw [if_pos n], Or.inr ⟨rfl, fun z => by omega⟩⟩
            · exact ⟨1, by rw [if_neg n], Or.inl ⟨rfl, a, by omega, d, by omega⟩⟩
          · exact ⟨1, by rw [if_pos j], Or.inl ⟨rfl, a, by omega, d, by omega⟩⟩
theorem st269_186 {JJ : Int → Int → ev_St → Option β} {x10 x34 : Int} {g : Nat} (hg : g < 4160) : ∃ v : Int, ev_jn JJ (fun K186 => ev_jn (fun (x50 : Int) (s56 : ev_St) => K186 x50 1 s56) fun K181 => if x10 ≠ 0 then (K181 x34 U) else (ev_if ((0 : Int) ≤ (g:Int) ∧ (g:Int) < (ev_aln 625 : Int)) (ev_b (U.1 625 g) fun x58 => ev_bd (jm_222 Q x58 1 6 U) fun x60 s59 => if x60 = 0 then (K186 x34 0 s59) else (K181 x34 s59)))) = JJ x34 v U ∧ ((v = 1 ∧ (x10 ≠ 0 ∨ edR g U)) ∨ (v = 0 ∧ ¬ (x10 ≠ 0 ∨ edR g U))) := by
  obtain ⟨l25, _⟩ := al_K
  unfold edR
  rw [sp_jn, sp_jn]
  by_cases a : x10 = 0
  · rw [if_neg (fun z => z a), sp_if (by rw [l25]; omega), sp_b, sp_222e, sp_bd]
    by_cases c : 1 ≤ U.1 625 g ∧ U.1 625 g ≤ 6
    · exact ⟨1, by rw [if_pos c, if_neg (by decide)], Or.inl ⟨rfl, Or.inr c⟩⟩
    · exact ⟨0, by rw [if_neg c, if_pos rfl], Or.inr ⟨rfl, fun z => by rcases z with z | z; exact z a; exact c z⟩⟩
  · exact ⟨1, by rw [if_pos a], Or.inl ⟨rfl, Or.inl a⟩⟩
theorem run269 (hp : p < 12) (hN : N ≤ 320) (hs : U.1 635 p = (N : Int)) : ∀ (n q i : Nat) (x9 x10 : Int), n < q → i + n = N → ∃ v : Int, jl_269_31 Q (p : Int) q x9 x10 (320 * (p : Int) + (i : Int)) U = some (v, U) ∧ ((v = 0 ∧ ¬ (x9 ≠ 0 ∧ ∀ m, i ≤ m → m < N → okR (320 * p + m) U)) ∨ ((x9 ≠ 0 ∧ ∀ m, i ≤ m → m < N → okR (320 * p + m) U) ∧ ((v = 1 ∧ (x10 ≠ 0 ∨ ∃ m, i ≤ m ∧ m < N ∧ edR (320 * p + m) U)) ∨ (v = 3 ∧ ¬ (x10 ≠ 0 ∨ ∃ m, i ≤ m ∧ m < N ∧ edR (320 * p + m) U)))))
  | n, 0, i, x9, x10, h, _ => by omega
  | 0, q + 1, i, x9, x10, _, hi => by
    obtain ⟨l25, l26, l27, l28, l29, l30, l31, l32, l33, l34, l35, _⟩ := al_K
    have st : jl_269_31 Q (p : Int) (q + 1) x9 x10 (320 * (p : Int) + (i : Int)) U = if x9 ≠ 0 then (if x10 = 0 then some (3, U) else some (1, U)) else some (0, U) := by
      show jb_269_31 Q _ _ _ _ _ U = _
      unfold jb_269_31
      rw [sp_ck (by omega), sp_if (by rw [l35]; omega), sp_b, Int.toNat_natCast, hs, sp_ck (by omega), if_pos (by omega)]
    rw [st]
    by_cases a : x9 = 0
    · exact ⟨0, by rw [if_neg (fun z => z a)], Or.inl ⟨rfl, fun z => z.1 a⟩⟩
    · by_cases c : x10 = 0
      · exact ⟨3, by rw [if_pos a, if_pos c], Or.inr ⟨⟨a, fun m h1 h2 => by omega⟩, Or.inr ⟨rfl, fun z => by
          rcases z with z | ⟨m, z1, z2, _⟩
          · exact z c
          · omega⟩⟩⟩
      · exact ⟨1, by rw [if_pos a, if_neg c], Or.inr ⟨⟨a, fun m h1 h2 => by omega⟩, Or.inl ⟨rfl, Or.inl c⟩⟩⟩
  | n + 1, q + 1, i, x9, x10, hq, hi => by
    obtain ⟨l25, l26, l27, l28, l29, l30, l31, l32, l33, l34, l35, _⟩ := al_K
    have eg : (320 * (p : Int) + (i : Int)).toNat = 320 * p + i := by omega
    have ec : 320 * (p : Int) + (i : Int) = ((320 * p + i : Nat) : Int) := by omega
    obtain ⟨v1, a1, a2⟩ := st269_160 (JJ := fun (x34 : Int) (s40 : ev_St) => ev_jn (fun (x41 : Int) (x42 : Int) (s48 : ev_St) => ev_ck (((320 * p + i : Nat) : Int) + 1) fun x49 => jl_269_31 Q (p : Int) q x41 x42 x49 s48) fun K186 => ev_jn (fun (x50 : Int) (s56 : ev_St) => K186 x50 1 s56) fun K181 => if x10 ≠ 0 then (K181 x34 s40) else (ev_if ((0 : Int) ≤ ((320*p+i:Nat):Int) ∧ ((320*p+i:Nat):Int) < (ev_aln 625 : Int)) (ev_b (s40.1 625 (320 * p + i)) fun x58 => ev_bd (jm_222 Q x58 1 6 s40) fun x60 s59 => if x60 = 0 then (K186 x34 0 s59) else (K181 x34 s59)))) (U := U) (x9 := x9) (x26 := if U.1 625 (320 * p + i) < 7 ∨ U.1 625 (320 * p + i) = 8 ∨ U.1 625 (320 * p + i) = 9 ∨ U.1 625 (320 * p + i) = 18 then 1 else 0) (g := 320 * p + i) (by omega) (by split <;> simp [*])
    obtain ⟨v2, b1, b2⟩ := st269_186 (JJ := fun (x41 : Int) (x42 : Int) (s48 : ev_St) => ev_ck (((320 * p + i : Nat) : Int) + 1) fun x49 => jl_269_31 Q (p : Int) q x41 x42 x49 s48) (U := U) (x10 := x10) (x34 := v1) (g := 320 * p + i) (by omega)
    obtain ⟨v, r1, r2⟩ := run269 hp hN hs n q (i + 1) v1 v2 (by omega) (by omega)
    refine ⟨v, ?_, ?_⟩
    · rw [← r1]
      show jb_269_31 Q _ _ _ _ _ U = _
      unfold jb_269_31
      rw [sp_ck (by omega), sp_if (by rw [l35]; omega), sp_b, Int.toNat_natCast, hs, sp_ck (by omega), if_neg (by omega), sp_if (by rw [l25]; omega), sp_b, ec, Int.toNat_natCast, st269_101 (by omega) rfl]
      refine Eq.trans a1 ?_
      try dsimp only
      refine Eq.trans b1 ?_
      try dsimp only
      rw [sp_ck (by omega), show ((320 * p + i : Nat) : Int) + 1 = 320 * (p : Int) + ((i + 1 : Nat) : Int) from by omega]
    · have all : (∀ m, i ≤ m → m < N → okR (320 * p + m) U) ↔ okR (320 * p + i) U ∧ ∀ m, i + 1 ≤ m → m < N → okR (320 * p + m) U := by
        constructor
        · exact fun z => ⟨z i (Nat.le_refl _) (by omega), fun m h1 h2 => z m (by omega) h2⟩
        · rintro ⟨z1, z2⟩ m h1 h2
          by_cases e : m = i
          · rw [e]
            exact z1
          · exact z2 m (by omega) h2
      have ex : (∃ m, i ≤ m ∧ m < N ∧ edR (320 * p + m) U) ↔ edR (320 * p + i) U ∨ ∃ m, i + 1 ≤ m ∧ m < N ∧ edR (320 * p + m) U := by
        constructor
        · rintro ⟨m, h1, h2, h3⟩
          by_cases e : m = i
          · rw [e] at h3
            exact Or.inl h3
          · exact Or.inr ⟨m, by omega, h2, h3⟩
        · rintro (z | ⟨m, h1, h2, h3⟩)
          · exact ⟨i, Nat.le_refl _, by omega, z⟩
          · exact ⟨m, by omega, h2, h3⟩
      have e1 : v1 ≠ 0 ↔ x9 ≠ 0 ∧ okR (320 * p + i) U := by
        rcases a2 with ⟨z, z2⟩ | ⟨z, z2⟩
        · rw [z]
          exact ⟨fun _ => z2, fun _ => by decide⟩
        · rw [z]
          exact ⟨fun y => absurd rfl y, fun y => absurd y z2⟩
      have e2 : v2 ≠ 0 ↔ x10 ≠ 0 ∨ edR (320 * p + i) U := by
        rcases b2 with ⟨z, z2⟩ | ⟨z, z2⟩
        · rw [z]
          exact ⟨fun _ => z2, fun _ => by decide⟩
        · rw [z]
          exact ⟨fun y => absurd rfl y, fun y => absurd y z2⟩
      rw [e1, e2] at r2
      rw [all, ex]
      rw [and_assoc, or_assoc] at r2
      exact r2
/-- both sides' engines -/
theorem eng_eq (hF : FINX k N M φ ψ own up S (sft p T)) (hw : WQ k N M φ ψ S (sft p T) W M) (hq : ∀ m, m < N → FQ (320 * p) T m) : ((∀ b, b < M → okT M k S W b) ↔ ∀ m, m < N → okR (320 * p + m) T) ∧ ((∃ b, b < M ∧ 1 ≤ S.1 (k + 1) b ∧ S.1 (k + 1) b ≤ 6) ↔ ∃ m, m < N ∧ edR (320 * p + m) T) := by
  have h := TREE_of hF
  have lb := fun m hm => LB_all hF hw hq N m hm (by omega)
  have eK : ∀ m, tK (sft p T) m = T.1 625 (320 * p + m) := fun m => sft_1 (by omega) (by omega)
  have eR : ∀ m, (sft p T).1 630 (3840 + m) = T.1 630 (320 * p + m) := fun m => sft_1 (by omega) (by omega)
  have eH : ∀ m, (sft p T).1 632 (3840 + m) = T.1 632 (320 * p + m) := fun m => sft_1 (by omega) (by omega)
  have kd : ∀ m, m < N → (S.1 (k + 1) (φ m) = 0 ∨ (1 ≤ S.1 (k + 1) (φ m) ∧ S.1 (k + 1) (φ m) ≤ 6) ∨ S.1 (k + 1) (φ m) = 15 ∨ (16 ≤ S.1 (k + 1) (φ m) ∧ S.1 (k + 1) (φ m) ≤ 18) ↔ (T.1 625 (320 * p + m) < 7 ∨ T.1 625 (320 * p + m) = 8 ∨ T.1 625 (320 * p + m) = 9 ∨ T.1 625 (320 * p + m) = 18)) ∧ ((1 ≤ S.1 (k + 1) (φ m) ∧ S.1 (k + 1) (φ m) ≤ 6) ↔ edR (320 * p + m) T) ∧ ¬ (S.1 (k + 1) (φ m) = 13 ∨ S.1 (k + 1) (φ m) = 14) ∧ 0 ≤ S.1 (k + 1) (φ m) := fun m hm => by
    obtain ⟨kr, kk⟩ := FINX_K hF hm
    rw [eK] at kr
    unfold edR
    rcases kk with ⟨_, y, z⟩ | ⟨_, z⟩
    · rw [eK] at y
      omega
    · rw [z, eK]
      generalize (sft p T).1 629 (3840 + m) = f
      generalize T.1 625 (320 * p + m) = c at kr ⊢
      have hc : c = 0 ∨ c = 1 ∨ c = 2 ∨ c = 3 ∨ c = 4 ∨ c = 5 ∨ c = 6 ∨ c = 7 ∨ c = 8 ∨ c = 9 ∨ c = 10 ∨ c = 11 ∨ c = 12 ∨ c = 13 ∨ c = 14 ∨ c = 15 ∨ c = 16 ∨ c = 17 ∨ c = 18 := by omega
      rcases hc with z | z | z | z | z | z | z | z | z | z | z | z | z | z | z | z | z | z | z <;> subst z <;> by_cases y : f = 0 <;> simp [kcl, y]
  refine ⟨⟨fun H m hm => ?_, fun H b hb => ?_⟩, ⟨?_, ?_⟩⟩
  · obtain ⟨k1, k2, k3, k4⟩ := kd m hm
    obtain ⟨p1, p2, p3, p4⟩ := h.1 m hm
    obtain ⟨o1, o2, o3⟩ := H (φ m) p1
    have kk : S.1 (k + 1) (φ m) = 0 ∨ (1 ≤ S.1 (k + 1) (φ m) ∧ S.1 (k + 1) (φ m) ≤ 6) ∨ S.1 (k + 1) (φ m) = 15 ∨ (16 ≤ S.1 (k + 1) (φ m) ∧ S.1 (k + 1) (φ m) ≤ 18) := by omega
    refine ⟨k1.mp kk, fun r2 => ?_, ?_⟩
    · rcases h.2.2.2.2.2.2.2.2 m hm with ⟨z, _⟩ | ⟨⟨z, _⟩, _⟩ | ⟨_, x', y', _, ⟨z7, z8⟩, _⟩
      · rw [eR] at z
        omega
      · rw [eR] at z
        omega
      · have := (H (ψ m) p2).2.1
        omega
    · rcases h.2.2.2.2.2.2.2.2 m hm with ⟨z, _⟩ | ⟨⟨z, _⟩, z2, z3, z4, z5, _⟩ | ⟨_, x', y', _, ⟨z7, z8⟩, _⟩
      · rw [eR] at z
        exact Or.inl z
      · rw [eR] at z z2
        rw [eH] at z5
        by_cases hh : T.1 632 (320 * p + m) = -1
        · obtain ⟨q1, q2, q3⟩ := H (ψ m) p2
          refine Or.inr (Or.inr ?_)
          have l0 := ((lb m hm).1).1
          have v0 := (hq m hm).2.2.2.2.1.1
          by_cases y : T.1 640 (320 * p + m) = 0
          · exact absurd ⟨by omega, by omega, φ m, z3, p1, by omega⟩ q3
          · omega
        · exact Or.inr (Or.inl hh)
      · have := (H (ψ m) p2).2.1
        omega
  · obtain ⟨oN, hb'⟩ := h.2.2.2.2.2.2.1 b hb
    obtain ⟨m, hmE⟩ : ∃ m, m = own b := ⟨_, rfl⟩
    rw [← hmE] at oN hb'
    obtain ⟨k1, k2, k3, k4⟩ := kd m oN
    obtain ⟨h1, h2, h3⟩ := H m oN
    by_cases c1 : b = φ m
    · have := k1.mpr h1
      rw [c1]
      exact ⟨by omega, by omega, fun z => k3 z.1⟩
    · have nh : ¬ HLP k ψ S (sft p T) m b := fun z => by
        have := z.1
        rw [eR] at this
        exact h2 this
      have bψ : b = ψ m := by
        rcases hb' with z | z | z
        · exact absurd z c1
        · exact z
        · exact absurd z nh
      rcases h.2.2.2.2.2.2.2.2 m oN with ⟨_, z⟩ | ⟨⟨z, _⟩, z2, z3, z4, z5, _⟩ | ⟨⟨z, _⟩, _⟩
      · exact absurd (by rw [bψ, z]) c1
      · rw [eR] at z z2
        rw [eH] at z5
        rw [bψ]
        refine ⟨by omega, by omega, fun ⟨_, y2, e, y3, y4, y5⟩ => ?_⟩
        have ee : e = φ m := by omega
        have l0 := ((lb m oN).1).1
        rw [ee] at y5
        omega
      · rw [eR] at z
        exact absurd z h2
  · rintro ⟨b, hb, q⟩
    obtain ⟨oN, hb'⟩ := h.2.2.2.2.2.2.1 b hb
    obtain ⟨m, hmE⟩ : ∃ m, m = own b := ⟨_, rfl⟩
    rw [← hmE] at oN hb'
    refine ⟨m, oN, (kd m oN).2.1.mp ?_⟩
    by_cases c1 : b = φ m
    · rw [← c1]
      exact q
    · exfalso
      rcases h.2.2.2.2.2.2.2.2 m oN with ⟨z0, z⟩ | ⟨⟨z, _⟩, z2, z3, z4, z5, _⟩ | ⟨⟨r2, _⟩, x', y', _⟩
      · rcases hb' with y | y | y
        · exact c1 y
        · exact c1 (by rw [y, z])
        · have := y.1
          omega
      · rcases hb' with y | y | y
        · exact c1 y
        · rw [y] at q
          omega
        · have := y.1
          omega
      · obtain ⟨x, y, hx, hy⟩ := TREE_2 h oN r2
        obtain ⟨_, _, _, _, _, q6, q7, _, q9, _⟩ := (TREE_r h oN).2 r2 x y hx hy
        rcases hb' with z | z | ⟨_, z | ⟨x2, z, z'⟩⟩
        · exact c1 z
        · rw [z] at q
          omega
        · have : b = x := by omega
          rw [this] at q
          omega
        · have e2 : x2 = x := by omega
          rw [e2] at z'
          have : b = y := by omega
          rw [this] at q
          omega
  · rintro ⟨m, hm, q⟩
    exact ⟨φ m, (h.1 m hm).1, (kd m hm).2.1.mpr q⟩
end FACTE2
