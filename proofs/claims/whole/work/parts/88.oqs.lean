/-! ENGINES: the class comes to what can be come to -/
section OQS
variable {Q k g w l s wd n x d i pc f m t t2 : Nat} {P : Nat → T3} {E : Int → Bool} {lv A : SNs} {c : CPs} {out : LFs} {L : List INS} {S S0 S1 S2 T U : ev_St} {a b v stamp : Int} {z : INS}
theorem flt_le {ls : LFs} : (flt lv ls).length ≤ ls.length := by
  induction ls with
  | nil => exact Nat.le_refl _
  | cons y ls ih =>
    unfold flt
    by_cases q : lv y.1 = true
    · rw [if_pos q, List.length_cons, List.length_cons]
      omega
    · rw [if_neg q, List.length_cons]
      omega
/-- from the entry at d on until it is done with -/
def CLr (Q k g w l s wd n x : Nat) (P : Nat → T3) (E : Int → Bool) (lv : SNs) (stamp : Int) (S0 : ev_St) (d : Nat) (S : ev_St) (y : Nat) (A A' : SNs) (c : CPs) (out : LFs) : Prop := ∃ t S', t + 2 * cnf A' n ≤ 1 + 2 * cnf A n ∧ (∀ q, jl_162_14 Q k (w + 1) (x : Int) (q + t) (y : Int) S = jl_162_14 Q k (w + 1) (x : Int) q ((y + t : Nat) : Int) S') ∧ TRc k l s wd n stamp A' c out S' ∧ FTc k l s S0 S' ∧ S'.1 k 10 = (d : Int) ∧ ∀ i, i < d → S'.1 (k + 4) i = S.1 (k + 4) i ∧ S'.1 (k + 5) i = S.1 (k + 5) i
theorem cl_dfs (hT : TST Q k g w l s wd n x L P E lv stamp S0) : ∀ f pc c A S out d y, pc < n → cnf A n ≤ f → FTc k l s S0 S → TRc k l s wd n stamp A c out S → S.1 k 10 = ((d + 1 : Nat) : Int) → S.1 (k + 4) d = (pc : Int) → out.length + cnf A n ≤ 208 → d + cnf A n ≤ 700 → y + 2 * cnf A n + 1 ≤ 1664 → CLr Q k g w l s wd n x P E lv stamp S0 d S y A (dfs P E x f pc c A).2 c (out ++ flt lv (dfs P E x f pc c A).1) := fun f => by
  have hT0 := hT
  obtain ⟨⟨⟨a3, a4, a5, a6, al, as⟩, ag⟩, ⟨r1, r2, r3⟩, ⟨e0, e7⟩, ⟨hpl, hn⟩, hI, hl, hE, ⟨k1, k2, k3, k4⟩, hw⟩ := hT
  -- what has been come to
  have skip : ∀ pc c A S out d y, pc < n → A pc = true → FTc k l s S0 S → TRc k l s wd n stamp A c out S → S.1 k 10 = ((d + 1 : Nat) : Int) → S.1 (k + 4) d = (pc : Int) → d + cnf A n ≤ 700 → y + 2 * cnf A n + 1 ≤ 1664 → CLr Q k g w l s wd n x P E lv stamp S0 d S y A A c out := fun pc c A S out d y hp hA hF hR hd ha hb hy => by
    refine ⟨1, ev_pI S k 10 (d : Int), by omega, fun q => ?_, TRc_p (d := d) hR k3.1 k2 (fun c i y1 y2 => by rw [sp_pI1, if_neg y1]), FTc_p (d := d) hF (fun c i y1 y2 => by rw [sp_pI1, if_neg y1]) rfl, rd_eq, fun i _ => ⟨by rw [rd_nk (by omega)], by rw [rd_nk (by omega)]⟩⟩
    rw [t_skip hT0 hF hR hd ha hp hA (by omega) (by omega), show (y : Int) + 1 = ((y + 1 : Nat) : Int) from by omega]
  induction f with
  | zero =>
    intro pc c A S out d y hp hc hF hR hd ha ho hb hy
    show CLr Q k g w l s wd n x P E lv stamp S0 d S y A A c (out ++ [])
    rw [List.append_nil]
    exact skip pc c A S out d y hp (cnf_0 (by omega) hp) hF hR hd ha hb hy
  | succ f ih =>
    intro pc c A S out d y hp hc hF hR hd ha ho hb hy
    rw [dfs_s]
    by_cases hA : A pc = true
    · rw [if_pos hA]
      show CLr Q k g w l s wd n x P E lv stamp S0 d S y A A c (out ++ [])
      rw [List.append_nil]
      exact skip pc c A S out d y hp hA hF hR hd ha hb hy
    · have hA' : A pc = false := by simpa using hA
      have on := cnf_on hA' n hp
      rw [if_neg hA]
      obtain ⟨z, z1, z2, z3⟩ := TST_n hT0 hp
      have w' := hw pc hp
      have le := cnf_le (A := A) n
      -- the turn itself
      have head : ∀ q, ∃ X, jl_162_14 Q k (w + 1) (x : Int) (q + 1) (y : Int) S = (ev_bd (jm_163 Q k (pc : Int) (w + 1) (x : Int) X) fun _ s36 => jl_162_14 Q k (w + 1) (x : Int) q ((y + 1 : Nat) : Int) s36) ∧ X = ev_pI (ev_pI S k 10 (d : Int)) (k + 3) pc stamp := fun q => by
        have g5 : S.1 g 5 = (n : Int) := by
          rw [hF.1 g 5 (by omega) (by omega) (by omega) (by omega), hpl.1, hn]
        have rf : S.2.2.1 k 11 = g + 1 := by
          rw [hF.2]
          exact r1
        have st : S.1 k 7 = stamp := (hF.1 k 7 (by omega) (by omega) (by omega) (by omega)).trans e7
        have ns : S.1 (k + 3) pc ≠ stamp := fun e => hA (((hR.1 pc (by omega)).2 hp).mpr e)
        refine ⟨_, ?_, rfl⟩
        obtain ⟨X, hX⟩ : ∃ X, X = ev_pI S k 10 (d : Int) := ⟨_, rfl⟩
        have x10 : X.1 k 10 = (d : Int) := by rw [hX, rd_eq]
        have xr : ∀ c i, ¬ (c = k ∧ i = 10) → X.1 c i = S.1 c i := fun c i h => by rw [hX, sp_pI1, if_neg h]
        have x2 : X.2 = S.2 := by rw [hX]; rfl
        rw [l162, ← hX]
        unfold jb_162_14
        rw [if_neg (by omega), sp_b, hd, if_neg (by omega), sp_b, sp_ck (by omega), show ((d + 1 : Nat) : Int) - 1 = (d : Int) from by omega, sp_b, ← hX, sp_b, x10, sp_if (by omega), Int.toNat_natCast, sp_b, xr (k + 4) d (by omega), ha, sp_jn, if_pos (by omega), sp_b, x2, rf, sp_if (by omega), show g + 1 - 1 = g from rfl, sp_70 (n := (n : Int)) (by rw [xr g 5 (by omega)]; exact g5), sp_bd, if_pos (show 0 ≤ (pc : Int) ∧ (pc : Int) < (n : Int) ∧ (pc : Int) < 208 by omega), if_neg (by decide), sp_if (by omega), Int.toNat_natCast, sp_b, xr (k + 3) pc (by omega), sp_b, xr k 7 (by omega), st, if_neg ns, sp_b, sp_if (by omega), sp_b]
        refine congrArg _ (funext fun _ => funext fun s36 => ?_)
        dsimp only
        rw [sp_ck (by omega), show (y : Int) + 1 = ((y + 1 : Nat) : Int) from by omega]
      obtain ⟨X, hX⟩ : ∃ X, X = ev_pI (ev_pI S k 10 (d : Int)) (k + 3) pc stamp := ⟨_, rfl⟩
      have turn : ∀ q, jl_162_14 Q k (w + 1) (x : Int) (q + 1) (y : Int) S = (ev_bd (jm_163 Q k (pc : Int) (w + 1) (x : Int) X) fun _ s36 => jl_162_14 Q k (w + 1) (x : Int) q ((y + 1 : Nat) : Int) s36) := fun q => by
        obtain ⟨X', h1, h2⟩ := head q
        rw [h1, h2, hX]
      have rX : ∀ c i, ¬ (c = k ∧ i = 10) → ¬ (c = k + 3 ∧ i = pc) → X.1 c i = S.1 c i := fun c i y1 y2 => by
        rw [hX, sp_pI1, if_neg y2, sp_pI1, if_neg y1]
      have FX : FTc k l s S0 X := FTc_t hF ⟨fun c i y1 y2 y3 y4 => rX c i (by omega) (by omega), by rw [hX]; rfl⟩
      have RX' : TRc k l s wd n stamp (onB A pc) c out X := by
        refine ⟨fun i hi => ?_, fun j hj => ?_, ?_, fun i q' d' hq => ?_⟩
        · by_cases e : i = pc
          · rw [e, hX, rd_eq]
            exact ⟨Int.le_refl _, fun _ => ⟨fun _ => rfl, fun _ => if_pos rfl⟩⟩
          · rw [rX _ _ (by omega) (by omega), show onB A pc i = A i from if_neg e]
            exact hR.1 i hi
        · rw [rX _ _ (by omega) (by omega)]
          exact hR.2.1 j hj
        · rw [rX _ _ (by omega) (by omega)]
          exact hR.2.2.1
        · obtain ⟨q1, q2⟩ := hR.2.2.2 i q' d' hq
          rw [rX _ _ (by omega) (by omega)]
          exact ⟨q1, fun j hj => by rw [rX _ _ (by omega) (by omega)]; exact q2 j hj⟩
      have dX : X.1 k 10 = (d : Int) := by
        rw [hX, rd_nk (by omega), rd_eq]
      have sX : ∀ i, X.1 (k + 4) i = S.1 (k + 4) i ∧ X.1 (k + 5) i = S.1 (k + 5) i := fun i => ⟨rX _ _ (by omega) (by omega), rX _ _ (by omega) (by omega)⟩
      -- one that ends with the turn
      have stop : ∀ out2 S2, jm_163 Q k (pc : Int) (w + 1) (x : Int) X = some ((), S2) → TRc k l s wd n stamp (onB A pc) c out2 S2 → FTc k l s S0 S2 → S2.1 k 10 = (d : Int) → (∀ i, S2.1 (k + 4) i = X.1 (k + 4) i ∧ S2.1 (k + 5) i = X.1 (k + 5) i) → CLr Q k g w l s wd n x P E lv stamp S0 d S y A (onB A pc) c out2 := fun out2 S2 h1 h2 h3 h4 h5 => ⟨1, S2, by omega, fun q => by rw [turn q, h1, sp_bd], h2, h3, h4, fun i _ => ⟨(h5 i).1.trans (sX i).1, (h5 i).2.trans (sX i).2⟩⟩
      -- one that goes on by one entry
      have one : ∀ pc2 S2, pc2 < n → jm_163 Q k (pc : Int) (w + 1) (x : Int) X = some ((), S2) → S2.1 k 10 = ((d + 1 : Nat) : Int) → S2.1 (k + 4) d = (pc2 : Int) → PUc k d X S2 → CLr Q k g w l s wd n x P E lv stamp S0 d S y A (dfs P E x f pc2 c (onB A pc)).2 c (out ++ flt lv (dfs P E x f pc2 c (onB A pc)).1) := fun pc2 S2 h0 h1 h2 h3 h4 => by
        obtain ⟨t, S', t1, t2, t3, t4, t5, t6⟩ := ih pc2 c (onB A pc) S2 out d (y + 1) h0 (by omega) (PUc_F FX h4) (PUc_R RX' k3.1 k2 h4) h2 h3 (by omega) (by omega) (by omega)
        refine ⟨t + 1, S', by omega, fun q => ?_, t3, t4, t5, fun i hi => ?_⟩
        · rw [show q + (t + 1) = q + t + 1 from by omega, turn (q + t), h1, sp_bd, t2 q, show y + 1 + t = y + (t + 1) from by omega]
        · obtain ⟨u1, u2⟩ := t6 i hi
          exact ⟨u1.trans ((h4.1 _ _ (by omega) (by omega)).trans (sX i).1), u2.trans ((h4.1 _ _ (by omega) (by omega)).trans (sX i).2)⟩
      by_cases o0 : (P pc).1 = 0 ∨ (P pc).1 = 5
      · rw [if_pos o0]
        have oz : z.1 = 0 ∨ z.1 = 6 := by
          rcases z2 with q | q | q | q | q | q | q <;> omega
        obtain ⟨l1, l2⟩ := f_leaf hT0 FX RX' z1 hp oz (by omega)
        by_cases hv : lv pc = true
        · obtain ⟨S2, p1, p2, p3, p4, p5⟩ := l2 hv
          rw [show flt lv [(pc, c)] = [(pc, c)] from if_pos hv]
          exact stop (out ++ [(pc, c)]) S2 p1 p2 p3 (p4.trans dX) p5
        · rw [show flt lv [(pc, c)] = [] from if_neg hv, List.append_nil]
          exact stop out X (l1 hv) RX' FX dX (fun i => ⟨rfl, rfl⟩)
      · rw [if_neg o0]
        by_cases o2 : (P pc).1 = 2
        · rw [if_pos o2]
          have w2 : (0 ≤ (P pc).2.1 ∧ (P pc).2.1 < n) ∧ (0 ≤ (P pc).2.2 ∧ (P pc).2.2 < n) := by
            rcases w' with q | q | q | q | q | q
            · omega
            · omega
            · exact q.2
            · omega
            · omega
            · omega
          have hz : (z.1 = 3 ∧ (P pc).2.1.toNat = pc + 1 ∧ (pc : Int) + z.2.1 = ((P pc).2.2.toNat : Int)) ∨ (z.1 = 4 ∧ (P pc).2.2.toNat = pc + 1 ∧ (pc : Int) + z.2.1 = ((P pc).2.1.toNat : Int)) := by
            rcases z2 with q | q | q | q | q | q | q
            · omega
            · omega
            · omega
            · left
              omega
            · right
              omega
            · omega
            · omega
          obtain ⟨S2, p1, p2, p3, p4, p5⟩ := f_fork (t := (P pc).2.1.toNat) (t2 := (P pc).2.2.toNat) hT0 FX z1 hp hz (by omega) dX (by omega)
          obtain ⟨dc1, _⟩ := dfs_cnf (E := E) (k := x) hw f (P pc).2.1.toNat c (onB A pc) (by omega)
          have fl1 := flt_le (lv := lv) (ls := (dfs P E x f (P pc).2.1.toNat c (onB A pc)).1)
          obtain ⟨t, S3, t1, t2, t3, t4, t5, t6⟩ := ih (P pc).2.1.toNat c (onB A pc) S2 out (d + 1) (y + 1) (by omega) (by omega) (PUc_F FX p5) (PUc_R RX' k3.1 k2 p5) p2 p3 (by omega) (by omega) (by omega)
          obtain ⟨t', S4, u1, u2, u3, u4, u5, u6⟩ := ih (P pc).2.2.toNat c (dfs P E x f (P pc).2.1.toNat c (onB A pc)).2 S3 (out ++ flt lv (dfs P E x f (P pc).2.1.toNat c (onB A pc)).1) d (y + 1 + t) (by omega) (by omega) t4 t3 t5 (by rw [(t6 d (by omega)).1]; exact p4) (by rw [List.length_append]; omega) (by omega) (by omega)
          refine ⟨t + t' + 1, S4, by show t + t' + 1 + 2 * cnf (dfs P E x f (P pc).2.2.toNat c (dfs P E x f (P pc).2.1.toNat c (onB A pc)).2).2 n ≤ _; omega, fun q => ?_, ?_, u4, u5, fun i hi => ?_⟩
          · rw [show q + (t + t' + 1) = q + t' + t + 1 from by omega, turn (q + t' + t), p1, sp_bd, t2 (q + t'), u2 q, show y + 1 + t + t' = y + (t + t' + 1) from by omega]
          · show TRc k l s wd n stamp _ c (out ++ flt lv ((dfs P E x f (P pc).2.1.toNat c (onB A pc)).1 ++ (dfs P E x f (P pc).2.2.toNat c (dfs P E x f (P pc).2.1.toNat c (onB A pc)).2).1)) S4
            rw [flt_app, ← List.append_assoc]
            exact u3
          · obtain ⟨v1, v2⟩ := u6 i hi
            obtain ⟨v3, v4⟩ := t6 i (by omega)
            exact ⟨v1.trans (v3.trans ((p5.1 _ _ (by omega) (by omega)).trans (sX i).1)), v2.trans (v4.trans ((p5.1 _ _ (by omega) (by omega)).trans (sX i).2))⟩
        · rw [if_neg o2]
          by_cases o3 : (P pc).1 = 3
          · rw [if_pos o3]
            have w3 : 0 ≤ (P pc).2.1 ∧ (P pc).2.1 < n := by
              rcases w' with q | q | q | q | q | q
              · omega
              · omega
              · omega
              · exact q.2
              · omega
              · omega
            have hz : z.1 = 2 ∧ (pc : Int) + z.2.1 = ((P pc).2.1.toNat : Int) := by
              rcases z2 with q | q | q | q | q | q | q <;> omega
            obtain ⟨S2, p1, p2, p3, p4⟩ := f_jump (t := (P pc).2.1.toNat) hT0 FX z1 hp hz.1 hz.2 (by omega) dX (by omega)
            exact one _ S2 (by omega) p1 p2 p3 p4
          · rw [if_neg o3]
            by_cases o4 : (P pc).1 = 4
            · rw [if_pos o4]
              have w4 : pc + 1 < n ∧ 2 ≤ (P pc).2.1 ∧ (P pc).2.1 < 20 := by
                rcases w' with q | q | q | q | q | q
                · omega
                · omega
                · omega
                · omega
                · exact q.2
                · omega
              have hz : z.1 = 5 ∧ z.2.1 = ((P pc).2.1.toNat : Int) := by
                rcases z2 with q | q | q | q | q | q | q <;> omega
              by_cases hm : (P pc).2.1.toNat < wd
              · obtain ⟨S3, S2, p1, p2, p3, p4, p5, p6, p7⟩ := f_in (m := (P pc).2.1.toNat) hT0 FX z1 hp hz.1 hz.2 hm dX (by omega)
                -- the slot is put
                have F3 : FTc k l s S0 (ev_pI S3 (k + 6) (P pc).2.1.toNat (x : Int)) := FTc_t (PUc_F FX p6) ⟨fun c i y1 y2 y3 y4 => by rw [sp_pI1, if_neg (by omega)], rfl⟩
                have R3 := PUc_R RX' k3.1 k2 p6
                have R4 : TRc k l s wd n stamp (onB A pc) (putC c (P pc).2.1 (x : Int)) out (ev_pI S3 (k + 6) (P pc).2.1.toNat (x : Int)) := by
                  refine ⟨fun i hi => by rw [rd_nk (by omega)]; exact R3.1 i hi, fun j hj => ?_, by rw [rd_nk (by omega)]; exact R3.2.2.1, fun i q e he => ?_⟩
                  · unfold putC
                    by_cases e : (j : Int) = (P pc).2.1
                    · rw [if_pos e, show j = (P pc).2.1.toNat from by omega, rd_eq]
                    · rw [if_neg e, rd_nf (by omega)]
                      exact R3.2.1 j hj
                  · obtain ⟨y1, y2⟩ := R3.2.2.2 i q e he
                    rw [rd_nk (by omega)]
                    exact ⟨y1, fun j hj => by rw [rd_nk (by omega)]; exact y2 j hj⟩
                obtain ⟨t, S4, t1, t2, t3, t4, t5, t6⟩ := ih (pc + 1) (putC c (P pc).2.1 (x : Int)) (onB A pc) S2 out (d + 1) (y + 1) (by omega) (by omega) (PUc_F F3 p7) (PUc_R R4 k3.1 k2 p7) p2 p3 (by omega) (by omega) (by omega)
                have s4 := t6 d (by omega)
                obtain ⟨dc1, _⟩ := dfs_cnf (E := E) (k := x) hw f (pc + 1) (putC c (P pc).2.1 (x : Int)) (onB A pc) (by omega)
                have bk : ∀ q, jl_162_14 Q k (w + 1) (x : Int) (q + 1) ((y + 1 + t : Nat) : Int) S4 = jl_162_14 Q k (w + 1) (x : Int) q (((y + 1 + t : Nat) : Int) + 1) (ev_pI (ev_pI S4 k 10 (d : Int)) (k + 6) (P pc).2.1.toNat (S4.1 (k + 5) d)) := fun q => t_back hT0 t4 t5 (by rw [s4.1, p4]) hm (by omega) (by omega)
                have old : S4.1 (k + 5) d = c (P pc).2.1.toNat := by
                  rw [s4.2, p5]
                  exact RX'.2.1 _ hm
                refine ⟨t + 2, ev_pI (ev_pI S4 k 10 (d : Int)) (k + 6) (P pc).2.1.toNat (S4.1 (k + 5) d), by omega, fun q => ?_, ?_, ?_, ?_, fun i hi => ?_⟩
                · rw [show q + (t + 2) = q + 1 + t + 1 from by omega, turn (q + 1 + t), p1, sp_bd, t2 (q + 1), bk q, show ((y + 1 + t : Nat) : Int) + 1 = ((y + (t + 2) : Nat) : Int) from by omega]
                · refine ⟨fun i hi => by rw [rd_nk (by omega), rd_nk (by omega)]; exact t3.1 i hi, fun j hj => ?_, by rw [rd_nk (by omega), rd_nf (by omega)]; exact t3.2.2.1, fun i q e he => ?_⟩
                  · by_cases e : j = (P pc).2.1.toNat
                    · rw [e, rd_eq, old]
                    · rw [rd_nf e, rd_nk (by omega), t3.2.1 j hj]
                      exact if_neg (by omega)
                  · obtain ⟨y1, y2⟩ := t3.2.2.2 i q e he
                    rw [rd_nk (by omega), rd_nk (by omega)]
                    exact ⟨y1, fun j hj => by rw [rd_nk (by omega), rd_nk (by omega)]; exact y2 j hj⟩
                · exact FTc_t t4 ⟨fun c i y1 y2 y3 y4 => by rw [sp_pI1, if_neg (by omega), sp_pI1, if_neg (by omega)], rfl⟩
                · rw [rd_nk (by omega), rd_eq]
                · obtain ⟨v1, v2⟩ := t6 i (by omega)
                  rw [rd_nk (by omega), rd_nk (by omega), rd_nk (by omega), rd_nk (by omega), v1, v2, p7.1 _ _ (by omega) (by omega), p7.1 _ _ (by omega) (by omega), rd_nk (by omega), rd_nk (by omega), p6.1 _ _ (by omega) (by omega), p6.1 _ _ (by omega) (by omega)]
                  exact sX i
              · -- the row is too short for it
                obtain ⟨S2, p1, p2, p3, p4⟩ := f_out (m := (P pc).2.1.toNat) hT0 FX z1 hp hz.1 hz.2 (by omega) dX (by omega)
                have R4 : TRc k l s wd n stamp (onB A pc) (putC c (P pc).2.1 (x : Int)) out X := ⟨RX'.1, fun j hj => by rw [RX'.2.1 j hj]; exact (if_neg (by omega)).symm, RX'.2.2⟩
                obtain ⟨t, S', t1, t2, t3, t4, t5, t6⟩ := ih (pc + 1) (putC c (P pc).2.1 (x : Int)) (onB A pc) S2 out d (y + 1) (by omega) (by omega) (PUc_F FX p4) (PUc_R R4 k3.1 k2 p4) p2 p3 (by omega) (by omega) (by omega)
                refine ⟨t + 1, S', by omega, fun q => ?_, ⟨t3.1, fun j hj => (t3.2.1 j hj).trans (if_neg (by omega)), t3.2.2⟩, t4, t5, fun i hi => ?_⟩
                · rw [show q + (t + 1) = q + t + 1 from by omega, turn (q + t), p1, sp_bd, t2 q, show y + 1 + t = y + (t + 1) from by omega]
                · obtain ⟨u1, u2⟩ := t6 i hi
                  exact ⟨u1.trans ((p4.1 _ _ (by omega) (by omega)).trans (sX i).1), u2.trans ((p4.1 _ _ (by omega) (by omega)).trans (sX i).2)⟩
            · rw [if_neg o4]
              have w1 : pc + 1 < n ∧ (P pc).1 = 1 := by
                rcases w' with q | q | q | q | q | q <;> omega
              have hz : z.1 = 1 := by
                rcases z2 with q | q | q | q | q | q | q <;> omega
              obtain ⟨l1, l2⟩ := f_end hT0 FX z1 hp hz dX (by omega)
              by_cases oe : E (P pc).2.1 = true
              · rw [if_pos oe]
                obtain ⟨S2, p1, p2, p3, p4⟩ := l1 oe
                exact one _ S2 w1.1 p1 p2 p3 p4
              · rw [if_neg oe]
                show CLr Q k g w l s wd n x P E lv stamp S0 d S y A (onB A pc) c (out ++ [])
                rw [List.append_nil]
                exact stop out X (l2 oe) RX' FX dX (fun i => ⟨rfl, rfl⟩)
/-- a thread added -/
theorem cl_add (hT : TST Q k g w l s wd n x L P E lv stamp S0) (hF : FTc k l s S0 S) (hR : TRc k l s wd n stamp A c out S) (hp : pc < n) (ho : out.length + cnf A n ≤ 208) (hQ : 2000 ≤ Q) : ∃ S', jm_162 Q k (pc : Int) (w + 1) (x : Int) S = some ((), S') ∧ FTc k l s S0 S' ∧ TRc k l s wd n stamp (dfs P E x n pc c A).2 c (out ++ flt lv (dfs P E x n pc c A).1) S' := by
  have hT0 := hT
  obtain ⟨⟨⟨a3, a4, a5, a6, al, as⟩, ag⟩, ⟨r1, r2, r3⟩, ⟨e0, e7⟩, ⟨hpl, hn⟩, hI, hl, hE, ⟨k1, k2, k3, k4⟩, hw⟩ := hT
  obtain ⟨_, _, _, n208⟩ := TST_n hT0 hp
  have le := cnf_le (A := A) n
  obtain ⟨S1, h1⟩ : ∃ S1, S1 = ev_pI S k 10 ((0 : Nat) : Int) := ⟨_, rfl⟩
  obtain ⟨S2, p1, p2, p3, p4, p5, p6⟩ := t_push (Q := Q) (S := S1) (d := 0) (a := (pc : Int)) (b := 0) a4 a5 (by rw [h1, rd_eq]) (by omega)
  have rr : ∀ c i, ¬ (c = k ∧ i = 10) → ¬ ((c = k + 4 ∨ c = k + 5) ∧ i = 0) → S2.1 c i = S.1 c i := fun c i y1 y2 => by
    rw [p5 c i y1 y2, h1, sp_pI1, if_neg y1]
  have F2 : FTc k l s S0 S2 := FTc_p (d := 0) hF rr (by rw [p6, h1]; rfl)
  have R2 : TRc k l s wd n stamp A c out S2 := TRc_p (d := 0) hR k3.1 k2 rr
  obtain ⟨t, S', t1, t2, t3, t4, t5, t6⟩ := cl_dfs hT0 n pc c A S2 out 0 0 hp le F2 R2 p2 p3 ho (by omega) (by omega)
  refine ⟨S', ?_, t4, t3⟩
  unfold jm_162
  rw [sp_b]
  show ev_bd (jm_164 Q k (pc : Int) 0 (ev_pI S k 10 ((0 : Nat) : Int))) _ = _
  rw [← h1, p1, sp_bd]
  have q := t2 (Q - t)
  rw [show Q - t + t = Q from by omega] at q
  refine Eq.trans q ?_
  obtain ⟨q', e⟩ : ∃ q', Q - t = q' + 1 := ⟨Q - t - 1, by omega⟩
  rw [e, l162]
  unfold jb_162_14
  rw [if_neg (by omega), sp_b, t5, if_pos (by omega)]
end OQS
