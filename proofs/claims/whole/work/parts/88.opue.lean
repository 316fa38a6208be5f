/-! THE READER: "{2,3}" on the reference's side, and on both -/
section RREP5
variable {Q k n m w d N M D lv : Nat} {φ ψ own inn G R ws y : Nat → Nat} {P q : Nat → Int} {S T S0 T0 S2 T2 T1 U : ev_St}
theorem pI_cm {S : ev_St} {k f k' f' : Nat} {x y : Int} (h : k ≠ k') : ev_pI (ev_pI S k f x) k' f' y = ev_pI (ev_pI S k' f' y) k f x := by
  have h : (ev_pI (ev_pI S k f x) k' f' y).1 = (ev_pI (ev_pI S k' f' y) k f x).1 := funext fun a => funext fun b => by
    rw [sp_pI1, sp_pI1, sp_pI1, sp_pI1]
    by_cases e : a = k ∧ b = f
    · rw [if_pos e, if_pos e, if_neg (by omega)]
    · rw [if_neg e, if_neg e]
  exact Prod.ext h rfl
/-- the reference's state at a spot, bad or not -/
def xS (lv : Nat) (T : ev_St) (p b : Int) : ev_St := ev_pI (ev_pI T 645 lv p) 621 25 b
theorem xS_25 {p b : Int} : (xS lv T p b).1 621 25 = b := rd_eq
theorem xS_p {p b : Int} : (xS lv T p b).1 645 lv = p := (rd_nk (by omega)).trans rd_eq
theorem xS_o {p b : Int} {c g : Nat} (h : ¬ (c = 645 ∧ g = lv)) (h2 : ¬ (c = 621 ∧ g = 25)) : (xS lv T p b).1 c g = T.1 c g := by
  unfold xS
  rw [sp_pI1, if_neg h2, sp_pI1, if_neg h]
theorem xS_w {p b x : Int} : ev_pI (xS lv T p b) 621 25 x = xS lv T p x := pI_pI
theorem xS_0 {p : Int} (h : T.1 621 25 = 0) : ev_pI T 645 lv p = xS lv T p 0 := by
  have := pI_id (S := ev_pI T 645 lv p) (k := 621) (f := 25)
  rw [show (ev_pI T 645 lv p).1 621 25 = 0 from (rd_nk (by omega)).trans h] at this
  exact this.symm
theorem xS_m {p b x : Int} : ev_pI (xS lv T p b) 645 lv x = xS lv T x b := by
  unfold xS
  rw [pI_cm (by omega), pI_pI]
theorem xT {p b a : Int} (ht : RIt lv ws S T) (hp : 0 ≤ p + a ∧ p + a ≤ 400) : jm_233 Q a (xS lv T p b) = some (sp_at S (ws lv) (p + a), xS lv T p b) := pk_T ht (fun a g h => xS_o (by omega) (by omega)) xS_p hp
theorem xG {p b a : Int} (ht : RIt lv ws S T) (hp : -1000 ≤ p + a ∧ p + a ≤ 1000) : jm_234 Q a (xS lv T p b) = some ((), xS lv T (p + a) b) := by
  rw [go_T ht (xS_o (by omega) (by omega)) xS_p hp, xS_m]
theorem xN {p b : Int} (hQ : 3 ≤ Q) (ht : RIt lv ws S T) (hp : 0 ≤ p ∧ p ≤ 300) : jm_254 Q (xS lv T p b) = some (if nbv (sp_at S (ws lv) p) (sp_at S (ws lv) (p + 1)) ≤ 20 then nbv (sp_at S (ws lv) p) (sp_at S (ws lv) (p + 1)) else -1, xS lv T (p + nbl (sp_at S (ws lv) p) (sp_at S (ws lv) (p + 1))) b) := by
  rw [nb_T hQ ht (fun a g h => xS_o (by omega) (by omega)) xS_p hp, xS_m]
theorem bd_R {p : Int} (hQ : 3 ≤ Q) (ht : RIt lv ws S T) (hp : 0 ≤ p ∧ p ≤ 130) (hpT : T.1 645 lv = p) (h25 : T.1 621 25 = 0) (hc : sp_at S (ws lv) p = 123) : ∃ f to b : Int, (b = 0 ∨ b = 1) ∧ jm_255 Q T = rpR Q f to (xS lv T (bdr (sp_at S (ws lv)) p) b) ∧ (bdo (sp_at S (ws lv)) p → f = bdl (sp_at S (ws lv)) p ∧ to = bdh (sp_at S (ws lv)) p ∧ b = 0) ∧ (¬ bdo (sp_at S (ws lv)) p → b = 1) := by
  have i1 := nb_i (sp_at S (ws lv) (p + 1)) (sp_at S (ws lv) (p + 2))
  have e0 : T = xS lv T p 0 := by
    have := pI_id (S := T) (k := 645) (f := lv)
    rw [hpT] at this
    rw [← xS_0 h25, this]
  have tail : ∀ (f to r b : Int), 0 ≤ r ∧ r ≤ 300 → b = 0 ∨ b = 1 → (ev_b ((xS lv T r b).1 621 25) fun x84 => ev_jn (fun (x85 : Int) (s90 : ev_St) => ev_if (ev_bl x85) (ev_b (ev_pI s90 621 25 x85) fun s91 => ev_bd (jm_234 Q 1 s91) fun _ s93 => rpR Q f to s93)) fun K150 => ev_jn (fun  (s98 : ev_St) => K150 1 s98) fun K145 => if x84 ≠ 0 then (K145  (xS lv T r b)) else (ev_bd (jm_233 Q 0 (xS lv T r b)) fun x101 s100 => if x101 = 125 then (K150 0 s100) else (K145  s100))) = rpR Q f to (xS lv T (r + 1) (if b = 0 ∧ sp_at S (ws lv) r = 125 then 0 else 1)) := fun f to r b hr hb => by
    rw [sp_b, xS_25, sp_jn, sp_jn]
    by_cases e1 : b = 0
    · rw [if_neg (fun z => z e1), xT ht (by omega), sp_bd, Int.add_zero]
      by_cases e2 : sp_at S (ws lv) r = 125
      · rw [if_pos e2, if_pos ⟨e1, e2⟩]
        dsimp only
        rw [sp_if (show ev_bl 0 from Or.inl rfl), sp_b, xS_w, xG ht (by omega), sp_bd]
      · rw [if_neg e2, if_neg (fun z => e2 z.2)]
        dsimp only
        rw [sp_if (show ev_bl 1 from Or.inr rfl), sp_b, xS_w, xG ht (by omega), sp_bd]
    · rw [if_pos e1, if_neg (fun z => e1 z.1)]
      dsimp only
      rw [sp_if (show ev_bl 1 from Or.inr rfl), sp_b, xS_w, xG ht (by omega), sp_bd]
  obtain ⟨f, hf⟩ : ∃ f : Int, f = if nbv (sp_at S (ws lv) (p + 1)) (sp_at S (ws lv) (p + 2)) ≤ 20 then nbv (sp_at S (ws lv) (p + 1)) (sp_at S (ws lv) (p + 2)) else -1 := ⟨_, rfl⟩
  obtain ⟨b1, hb1⟩ : ∃ b : Int, b = if f = -1 then 1 else 0 := ⟨_, rfl⟩
  have hb1' : b1 = 0 ∨ b1 = 1 := by
    rw [hb1]
    split
    · exact Or.inr rfl
    · exact Or.inl rfl
  have hfl : f = bdl (sp_at S (ws lv)) p ∧ bdl (sp_at S (ws lv)) p ≤ 20 ∨ f = -1 ∧ 20 < bdl (sp_at S (ws lv)) p := by
    unfold bdl
    rw [hf]
    split
    · exact Or.inl ⟨rfl, by assumption⟩
    · exact Or.inr ⟨rfl, by omega⟩
  have hfb : (f = -1 ∧ b1 = 1) ∨ (f ≠ -1 ∧ b1 = 0) := by
    rw [hb1]
    by_cases e : f = -1
    · exact Or.inl ⟨e, if_pos e⟩
    · exact Or.inr ⟨e, if_neg e⟩
  have hl1 : bdl (sp_at S (ws lv)) p = nbv (sp_at S (ws lv) (p + 1)) (sp_at S (ws lv) (p + 2)) := rfl
  have n123 : ¬ (123 : Int) = 43 ∧ ¬ (123 : Int) = 63 := by omega
  have g2 : jm_233 Q 0 T = some (123, T) := by
    have := xT (Q := Q) (a := 0) (p := p) (b := 0) ht (by omega)
    rw [Int.add_zero, hc, ← e0] at this
    exact this
  have g7 : jm_234 Q 1 T = some ((), xS lv T (p + 1) 0) := by
    have := xG (Q := Q) (a := 1) (p := p) (b := 0) ht (by omega)
    rw [← e0] at this
    exact this
  have head : ∀ (X : Option (Unit × ev_St)), (∀ t : Int → ev_St → Option (Unit × ev_St), (∀ (to r b : Int), 0 ≤ r ∧ r ≤ 300 → b = 0 ∨ b = 1 → t to (xS lv T r b) = rpR Q f to (xS lv T (r + 1) (if b = 0 ∧ sp_at S (ws lv) r = 125 then 0 else 1))) → (ev_bd (jm_233 Q 0 (xS lv T (p + 1 + nbl (sp_at S (ws lv) (p + 1)) (sp_at S (ws lv) (p + 2))) b1)) fun x77 s76 => if x77 ≠ 44 then (t f s76) else (ev_bd (jm_234 Q 1 s76) fun _ s104 => ev_bd (jm_233 Q 0 s104) fun x106 s105 => if x106 = 125 then (t ((-1)) s105) else (ev_bd (jm_254 Q  s105) fun x109 s108 => ev_b (s108.1 621 25) fun x110 => ev_jn (fun (x111 : Int) (x112 : Int) (s117 : ev_St) => ev_if (ev_bl x112) (ev_b (ev_pI s117 621 25 x112) fun s118 => t x111 s118)) fun K124 => ev_jn (fun (x120 : Int) (s125 : ev_St) => K124 x120 1 s125) fun K119 => if x110 ≠ 0 then (K119 x109 s108) else (if x109 = (-1) then (K119 x109 s108) else (if f ≤ x109 then (K124 x109 0 s108) else (K119 x109 s108)))))) = X) → jm_255 Q T = X := fun X hX => by
    have q := hX (fun (x78 : Int) (s83 : ev_St) => ev_b (s83.1 621 25) fun x84 => ev_jn (fun (x85 : Int) (s90 : ev_St) => ev_if (ev_bl x85) (ev_b (ev_pI s90 621 25 x85) fun s91 => ev_bd (jm_234 Q 1 s91) fun _ s93 => rpR Q f x78 s93)) fun K150 => ev_jn (fun  (s98 : ev_St) => K150 1 s98) fun K145 => if x84 ≠ 0 then (K145  s83) else (ev_bd (jm_233 Q 0 s83) fun x101 s100 => if x101 = 125 then (K150 0 s100) else (K145  s100))) (fun to r b hr hb => tail f to r b hr hb)
    unfold jm_255
    rw [g2, sp_bd, g7, sp_bd, sp_jn, if_pos n123.1]
    dsimp only
    rw [sp_jn, if_pos n123.2]
    dsimp only
    rw [sp_jn, if_neg (fun z => z rfl), xN hQ ht (by omega), show p + 1 + 1 = p + 2 from by omega, sp_bd, ← hf, sp_b, xS_25, sp_jn, sp_jn, if_neg (fun z => z rfl)]
    rcases hfb with ⟨z1, z2⟩ | ⟨z1, z2⟩
    · rw [if_neg (fun z => z z1)]
      dsimp only
      rw [z2] at q
      rw [sp_if (show ev_bl 1 from Or.inr rfl), sp_b, xS_w]
      exact q
    · rw [if_pos z1]
      dsimp only
      rw [z2] at q
      rw [sp_if (show ev_bl 0 from Or.inl rfl), sp_b, xS_w]
      exact q
  have q := head
  unfold bdo bdh bdr at *
  generalize nbl (sp_at S (ws lv) (p + 1)) (sp_at S (ws lv) (p + 2)) = n1 at *
  by_cases e1 : sp_at S (ws lv) (p + 1 + n1) = 44
  · simp only [if_pos e1]
    by_cases e2 : sp_at S (ws lv) (p + 2 + n1) = 125
    · simp only [if_pos e2]
      refine ⟨f, -1, if b1 = 0 ∧ sp_at S (ws lv) (p + 2 + n1) = 125 then 0 else 1, ?_, head _ (fun t ht' => ?_), fun h => ⟨?_, rfl, ?_⟩, fun h => ?_⟩
      · split
        · exact Or.inl rfl
        · exact Or.inr rfl
      · rw [xT ht (by omega), sp_bd, Int.add_zero, if_neg (fun z => z e1), xG ht (by omega), sp_bd, xT ht (by omega), sp_bd, Int.add_zero, show p + 1 + n1 + 1 = p + 2 + n1 from by omega, if_pos e2, ht' (-1) _ _ (by omega) hb1', show p + 2 + n1 + 1 = p + 3 + n1 from by omega]
      · omega
      · rw [if_pos ⟨by omega, e2⟩]
      · rw [if_neg (fun z => h (by
          rw [show p + 3 + n1 - 1 = p + 2 + n1 from by omega]
          refine ⟨e2, ?_, ?_, ?_⟩ <;> first | trivial | exact Or.inl trivial | omega))]
    · simp only [if_neg e2]
      have i2 := nb_i (sp_at S (ws lv) (p + 2 + n1)) (sp_at S (ws lv) (p + 3 + n1))
      have xn := xN (Q := Q) (p := p + 2 + n1) (b := b1) hQ ht (by omega)
      rw [show p + 2 + n1 + 1 = p + 3 + n1 from by omega] at xn
      generalize nbv (sp_at S (ws lv) (p + 2 + n1)) (sp_at S (ws lv) (p + 3 + n1)) = hi at *
      generalize nbl (sp_at S (ws lv) (p + 2 + n1)) (sp_at S (ws lv) (p + 3 + n1)) = n2 at *
      obtain ⟨h2, hh2⟩ : ∃ h2 : Int, h2 = if hi ≤ 20 then hi else -1 := ⟨_, rfl⟩
      have hhl : h2 = hi ∧ hi ≤ 20 ∨ h2 = -1 ∧ 20 < hi := by
        rw [hh2]
        split
        · exact Or.inl ⟨rfl, by assumption⟩
        · exact Or.inr ⟨rfl, by omega⟩
      rw [← hh2] at xn
      obtain ⟨b2, hb2⟩ : ∃ b : Int, b = if b1 = 0 ∧ h2 ≠ -1 ∧ f ≤ h2 then 0 else 1 := ⟨_, rfl⟩
      have hb2' : (b2 = 0 ∧ b1 = 0 ∧ h2 ≠ -1 ∧ f ≤ h2) ∨ (b2 = 1 ∧ ¬ (b1 = 0 ∧ h2 ≠ -1 ∧ f ≤ h2)) := by
        rw [hb2]
        by_cases e : b1 = 0 ∧ h2 ≠ -1 ∧ f ≤ h2
        · exact Or.inl ⟨if_pos e, e⟩
        · exact Or.inr ⟨if_neg e, e⟩
      refine ⟨f, h2, if b2 = 0 ∧ sp_at S (ws lv) (p + 2 + n1 + n2) = 125 then 0 else 1, ?_, head _ (fun t ht' => ?_), fun h => ⟨?_, ?_, ?_⟩, fun h => ?_⟩
      · split
        · exact Or.inl rfl
        · exact Or.inr rfl
      · have fin := ht' h2 (p + 2 + n1 + n2) b2 (by omega) (by omega)
        rw [show p + 2 + n1 + n2 + 1 = p + 3 + n1 + n2 from by omega] at fin
        rw [xT ht (by omega), sp_bd, Int.add_zero, if_neg (fun z => z e1), xG ht (by omega), sp_bd, xT ht (by omega), sp_bd, Int.add_zero, show p + 1 + n1 + 1 = p + 2 + n1 from by omega, if_neg e2, xn, sp_bd, sp_b, xS_25, sp_jn, sp_jn]
        rcases hb2' with ⟨y1, y2, y3, y4⟩ | ⟨y1, y2⟩
        · rw [if_neg (fun z => z y2), if_neg y3, if_pos y4]
          dsimp only
          rw [sp_if (show ev_bl 0 from Or.inl rfl), sp_b, xS_w, ← fin, y1]
        · have one : (ev_if (ev_bl 1) (ev_b (ev_pI (xS lv T (p + 2 + n1 + n2) b1) 621 25 1) fun s118 => t h2 s118)) = rpR Q f h2 (xS lv T (p + 3 + n1 + n2) (if b2 = 0 ∧ sp_at S (ws lv) (p + 2 + n1 + n2) = 125 then 0 else 1)) := by
            rw [sp_if (show ev_bl 1 from Or.inr rfl), sp_b, xS_w, ← fin, y1]
          by_cases z1 : b1 = 0
          · rw [if_neg (fun z => z z1)]
            by_cases z2 : h2 = -1
            · rw [if_pos z2]
              exact one
            · rw [if_neg z2, if_neg (fun z => y2 ⟨z1, z2, z⟩)]
              exact one
          · rw [if_pos z1]
            exact one
      · omega
      · have := h.1
        by_cases z : hi = -1
        · have : n2 = 0 := i2.2.2 z
          have h1 := h.1
          rw [show p + 3 + n1 + n2 - 1 = p + 2 + n1 from by omega] at h1
          exact absurd h1 e2
        · omega
      · have h1 := h.1
        rw [show p + 3 + n1 + n2 - 1 = p + 2 + n1 + n2 from by omega] at h1
        have hb20 : b2 = 0 := by
          by_cases z : hi = -1
          · have : n2 = 0 := i2.2.2 z
            rw [show p + 2 + n1 + n2 = p + 2 + n1 from by omega] at h1
            exact absurd h1 e2
          · omega
        rw [if_pos ⟨hb20, h1⟩]
      · rw [if_neg (fun z => h ⟨by rw [show p + 3 + n1 + n2 - 1 = p + 2 + n1 + n2 from by omega]; exact z.2, by omega, by omega, by omega⟩)]
  · simp only [if_neg e1]
    refine ⟨f, f, if b1 = 0 ∧ sp_at S (ws lv) (p + 1 + n1) = 125 then 0 else 1, ?_, head _ (fun t ht' => ?_), fun h => ⟨?_, ?_, ?_⟩, fun h => ?_⟩
    · split
      · exact Or.inl rfl
      · exact Or.inr rfl
    · rw [xT ht (by omega), sp_bd, Int.add_zero, if_pos e1, ht' f _ _ (by omega) hb1', show p + 1 + n1 + 1 = p + 2 + n1 from by omega]
    · omega
    · omega
    · have h1 := h.1
      rw [show p + 2 + n1 - 1 = p + 1 + n1 from by omega] at h1
      rw [if_pos ⟨by omega, h1⟩]
    · rw [if_neg (fun z => h ⟨by rw [show p + 2 + n1 - 1 = p + 1 + n1 from by omega]; exact z.2, by omega, by omega, by omega⟩)]
end RREP5
section RREP6
variable {Q k n m w d N M D lv : Nat} {φ ψ own inn G R ws y : Nat → Nat} {P q : Nat → Int} {S T S0 T0 S2 T2 T1 U : ev_St}
theorem tk_bound {p : Int} (hQ : 3 ≤ Q) (hk : ev_isOb k 5 = true) (hkr : 232 ≤ k) (H : RIy k lv ws N M D φ ψ own inn G R y P q S T) (hp : T.1 645 lv = p) (hc : sp_at S (ws lv) p = 123) : TK0 k lv ws (nx (sp_at S (ws lv)) p) S T (jm_85 Q S) (jm_263 Q T) := by
  have ht := H.1.2.1
  obtain ⟨⟨g1, g2, g3, g4, g5⟩, g6, g7⟩ := hd_85 (Q := Q) (c := 123) ht (by rw [hp]; exact hc) (by decide)
  have nxe : nx (sp_at S (ws lv)) p = bdr (sp_at S (ws lv)) p + rsl (sp_at S (ws lv) (bdr (sp_at S (ws lv)) p)) := by
    rw [← bnd_r]
    unfold nx
    rw [if_neg (by omega), if_neg (by omega), if_neg (by omega), if_neg (by omega), if_pos hc]
  rw [nxe]
  rw [hp] at g3 g4 g7
  have h25 := H.1.2.2.2.2.2.2.2
  obtain ⟨c1, c2⟩ := bd_C (Q := Q) (p := p) ht (by omega)
  obtain ⟨f, to, b, hb, r1, r2, r3⟩ := bd_R (Q := Q) hQ ht (by omega) hp h25 hc
  have redC : jm_85 Q S = ev_bd (jm_94 Q (ev_pI S 3 8 (p + 1))) fun x s => ev_if (ev_bl x) (some (x, s)) := by
    unfold jm_85
    rw [g1, sp_bd, sp_b, g3, sp_ck (by omega), sp_b, if_neg (show ¬ ((123 : Int) = 36) by decide), if_neg (show ¬ ((123 : Int) = 40) by decide), if_neg (show ¬ ((123 : Int) = 41) by decide), if_neg (show ¬ ((123 : Int) = 42) by decide), if_neg (show ¬ ((123 : Int) = 43) by decide), if_neg (show ¬ ((123 : Int) = 46) by decide), if_neg (show ¬ ((123 : Int) = 63) by decide), if_neg (show ¬ ((123 : Int) = 91) by decide), if_neg (show ¬ ((123 : Int) = 92) by decide), if_neg (show ¬ ((123 : Int) = 94) by decide), if_pos rfl]
  have redR : jm_263 Q T = ev_bd (jm_255 Q T) fun _ s => some ((), s) := by
    unfold jm_263
    rw [g2, sp_bd, sp_jn, if_neg (show ¬ ((123 : Int) = 63) by decide), if_neg (show ¬ ((123 : Int) = 42) by decide), if_neg (show ¬ ((123 : Int) = 43) by decide), if_neg (fun z => z rfl)]
  have i1 := nb_i (sp_at S (ws lv) (p + 1)) (sp_at S (ws lv) (p + 2))
  have i2 := nb_i (sp_at S (ws lv) (p + 2 + nbl (sp_at S (ws lv) (p + 1)) (sp_at S (ws lv) (p + 2)))) (sp_at S (ws lv) (p + 3 + nbl (sp_at S (ws lv) (p + 1)) (sp_at S (ws lv) (p + 2))))
  have hr : p + 1 ≤ bdr (sp_at S (ws lv)) p ∧ bdr (sp_at S (ws lv)) p ≤ p + 7 := by
    unfold bdr
    (repeat' split) <;> omega
  by_cases good : bdo (sp_at S (ws lv)) p
  · obtain ⟨e1, e2, e3⟩ := r2 good
    have hin := at_in (S := S) (w := ws lv) (p := bdr (sp_at S (ws lv)) p - 1) (by omega) (by rw [good.1]; decide)
    obtain ⟨T2, t1, t2⟩ := tk_rep (Q := Q) (lo := bdl (sp_at S (ws lv)) p) (hi := bdh (sp_at S (ws lv)) p) (r := bdr (sp_at S (ws lv)) p) (s := sp_at S (ws lv) (bdr (sp_at S (ws lv)) p)) hk hkr H mv_pI (by omega) rfl ⟨good.2.1, by have := good.2; omega, good.2.2.2⟩
    refine TK0_of t2 (fun hA => ?_) ?_
    · rw [redC, c1 good, fin_bd2 hA]
      exact fin_bd hA
    · rw [redR, r1, e1, e2, e3, ← xS_0 h25, t1, sp_bd]
  · obtain ⟨S', hS'⟩ := c2 good
    have e := r3 good
    have hn3 := (RIy_n H.1)
    have hyy := H.1.2.2.2.2.2.1
    have fin : ∃ T', rpR Q f to (xS lv T (bdr (sp_at S (ws lv)) p) b) = some ((), T') ∧ T'.1 621 25 = 1 := by
      rcases hyy with ⟨y1, y2⟩ | ⟨y1, t, y2, y3, y4⟩
      · refine ⟨ev_pI (xS lv T (bdr (sp_at S (ws lv)) p) b) 621 25 1, ?_, rd_eq⟩
        unfold rpR
        rw [sp_b, xS_o (by omega) (by omega), y2, if_neg (fun z => z rfl), sp_b]
      · have tN : t < N := by
          rcases (H.1.1.1.2.2.2.2.1 D (Nat.le_refl _)).2.1 with ⟨z1, _⟩ | ⟨t', u, z1, ⟨z2, _⟩, _⟩
          · omega
          · have := z2.1
            omega
        obtain ⟨T', q1, _, ⟨_, q6, _⟩, _⟩ := rp_R (Q := Q) (lo := f) (hi := to) (T0 := xS lv T (bdr (sp_at S (ws lv)) p) b) (t := t) ht (fun a g h => xS_o (by omega) (by omega)) xS_p (by omega) rfl (by rw [xS_o (by omega) (by omega)]; exact y2) (by omega) (by rw [xS_o (by omega) (by omega)]; omega)
        exact ⟨T', q1, by rw [q6, xS_25, if_neg (by omega)]⟩
    obtain ⟨T', f1, f2⟩ := fin
    exact Or.inl ⟨S', T', by rw [redC, hS', sp_bd, sp_if (Or.inl rfl)], by rw [redR, r1, f1, sp_bd], f2⟩
end RREP6
