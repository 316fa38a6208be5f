theorem ev_ushr_n (x : Int32) (k : Nat) (hk : k < 32) : (ev_ushr x (Int32.ofNat k)).toUInt32.toNat = x.toUInt32.toNat / 2 ^ k := by
  have e : ((Int32.ofNat k).toUInt32 &&& Int32.toUInt32 31).toNat = k := by
    rw [UInt32.toNat_and]
    have h1 : (Int32.ofNat k).toUInt32.toNat = k := by
      show (BitVec.ofNat 32 k).toNat = k
      rw [BitVec.toNat_ofNat]
      omega
    have h2 : (Int32.toUInt32 31).toNat = 2 ^ 5 - 1 := by decide
    rw [h1, h2, Nat.and_two_pow_sub_one_eq_mod]
    omega
  unfold ev_ushr
  rw [show ((x.toUInt32 >>> ((Int32.ofNat k).toUInt32 &&& Int32.toUInt32 31)).toInt32).toUInt32 = x.toUInt32 >>> ((Int32.ofNat k).toUInt32 &&& Int32.toUInt32 31) from rfl, UInt32.toNat_shiftRight, e, Nat.mod_eq_of_lt hk, Nat.shiftRight_eq_div_pow]
theorem ev_u_inj {x y : Int32} (h : x.toUInt32.toNat = y.toUInt32.toNat) : x = y := by
  have h1 : x.toUInt32 = y.toUInt32 := UInt32.toNat_inj.mp h
  have h2 := congrArg UInt32.toInt32 h1
  exact h2
theorem ev_ushr_2 (x : Int32) (j k : Nat) (h : j + k < 32) : ev_ushr (ev_ushr x (Int32.ofNat j)) (Int32.ofNat k) = ev_ushr x (Int32.ofNat (j + k)) := by
  refine ev_u_inj ?_
  rw [ev_ushr_n _ k (by omega), ev_ushr_n _ j (by omega), ev_ushr_n _ (j + k) h, Nat.div_div_eq_div_mul, ← Nat.pow_add]
theorem ev_ushr_0 (x : Int32) : ev_ushr x 0 = x := by
  refine ev_u_inj ?_
  rw [show (0 : Int32) = Int32.ofNat 0 from rfl, ev_ushr_n _ 0 (by omega)]
  omega
theorem ev_ushr_24 (x : Int32) : ev_ushr (ev_ushr x 24) 8 = 0 := by
  refine ev_u_inj ?_
  rw [show (8 : Int32) = Int32.ofNat 8 from rfl, ev_ushr_n _ 8 (by omega), show (24 : Int32) = Int32.ofNat 24 from rfl, ev_ushr_n _ 24 (by omega), Nat.div_div_eq_div_mul]
  have : x.toUInt32.toNat < 2 ^ 32 := x.toUInt32.toNat_lt
  show _ = 0
  omega
theorem ev_ushr_z (k : Nat) (hk : k < 32) : ev_ushr 0 (Int32.ofNat k) = 0 := by
  refine ev_u_inj ?_
  rw [ev_ushr_n _ k hk]
  show 0 / 2 ^ k = 0
  exact Nat.zero_div _
theorem ev_u_1 (x : Int32) : ev_ushr (ev_ushr x 8) 8 = ev_ushr x 16 := ev_ushr_2 x 8 8 (by omega)
theorem ev_u_2 (x : Int32) : ev_ushr (ev_ushr x 16) 8 = ev_ushr x 24 := ev_ushr_2 x 16 8 (by omega)
theorem ev_u_z1 {x : Int32} (h : ev_ushr x 8 = 0) : ev_ushr x 16 = 0 := by rw [← ev_u_1, h]; exact ev_ushr_z 8 (by omega)
theorem ev_u_z2 {x : Int32} (h : ev_ushr x 16 = 0) : ev_ushr x 24 = 0 := by rw [← ev_u_2, h]; exact ev_ushr_z 8 (by omega)
theorem ev_G_nz {c : Int32} (h : ev_isG c) : c ≠ 0 := fun e => by
  rw [e] at h
  revert h
  unfold ev_isG
  decide
theorem ev_p1arm0 (xs : Nat → Int32) : ev_P1 xs 188 := by
  obtain ⟨x, hx⟩ : ∃ x, xs 1 = x := ⟨_, rfl⟩
  by_cases hy0 : x = 0
  · exact ev_p1_0_zero xs (hx.trans hy0)
  · skip
    by_cases hg0 : ev_isG (x &&& 255)
    · have hc0 := ev_G_nz hg0
      by_cases hz1 : (ev_ushr x 8) = 0
      · skip
        have hz2 := ev_u_z1 hz1
        have hz3 := ev_u_z2 hz2
        exact ev_p1_0_g1 xs x hy0 (x &&& 255) hc0 hg0 (ev_ushr_0 x) hz1 hz2 hz3 rfl hx
      · have hy1 := hz1
        by_cases hg1 : ev_isG ((ev_ushr x 8) &&& 255)
        · have hc1 := ev_G_nz hg1
          by_cases hz2 : (ev_ushr x 16) = 0
          · skip
            have hz3 := ev_u_z2 hz2
            exact ev_p1_0_g2 xs x hy0 (ev_ushr x 8) hy1 (x &&& 255) hc0 ((ev_ushr x 8) &&& 255) hc1 hg0 hg1 (ev_ushr_0 x) rfl hz2 hz3 ((ev_u_1 x).trans hz2) rfl rfl hx
          · have hy2 := hz2
            by_cases hg2 : ev_isG ((ev_ushr x 16) &&& 255)
            · have hc2 := ev_G_nz hg2
              by_cases hz3 : (ev_ushr x 24) = 0
              · skip
                exact ev_p1_0_g3 xs x hy0 (ev_ushr x 8) hy1 (ev_ushr x 16) hy2 (x &&& 255) hc0 ((ev_ushr x 8) &&& 255) hc1 ((ev_ushr x 16) &&& 255) hc2 hg0 hg1 hg2 (ev_ushr_0 x) rfl rfl hz3 (ev_u_1 x) ((ev_u_2 x).trans hz3) rfl rfl rfl hx
              · have hy3 := hz3
                by_cases hg3 : ev_isG ((ev_ushr x 24) &&& 255)
                · have hc3 := ev_G_nz hg3
                  exact ev_p1_0_g4 xs x hy0 (ev_ushr x 8) hy1 (ev_ushr x 16) hy2 (ev_ushr x 24) hy3 (x &&& 255) hc0 ((ev_ushr x 8) &&& 255) hc1 ((ev_ushr x 16) &&& 255) hc2 ((ev_ushr x 24) &&& 255) hc3 hg0 hg1 hg2 hg3 (ev_ushr_0 x) rfl rfl rfl (ev_u_1 x) (ev_u_2 x) (ev_ushr_24 x) rfl rfl rfl rfl hx
                · by_cases hb3 : ((ev_ushr x 24) &&& 255) = 0
                  · skip
                    exact ev_p1_0_b3z xs x hy0 (ev_ushr x 8) hy1 (ev_ushr x 16) hy2 (ev_ushr x 24) hy3 (x &&& 255) hc0 ((ev_ushr x 8) &&& 255) hc1 ((ev_ushr x 16) &&& 255) hc2 hg0 hg1 hg2 (ev_ushr_0 x) rfl rfl rfl (ev_u_1 x) (ev_u_2 x) (ev_ushr_24 x) rfl rfl rfl hb3 hx
                  · have hc3 := hb3
                    exact ev_p1_0_b3b xs x hy0 (ev_ushr x 8) hy1 (ev_ushr x 16) hy2 (ev_ushr x 24) hy3 (x &&& 255) hc0 ((ev_ushr x 8) &&& 255) hc1 ((ev_ushr x 16) &&& 255) hc2 ((ev_ushr x 24) &&& 255) hc3 hg0 hg1 hg2 hg3 (ev_ushr_0 x) rfl rfl rfl (ev_u_1 x) (ev_u_2 x) (ev_ushr_24 x) rfl rfl rfl rfl hx
            · by_cases hb2 : ((ev_ushr x 16) &&& 255) = 0
              · skip
                by_cases hb3 : ((ev_ushr x 24) &&& 255) = 0
                · skip
                  exact ev_p1_0_b2zz xs x hy0 (ev_ushr x 8) hy1 (ev_ushr x 16) hy2 (ev_ushr x 24) (x &&& 255) hc0 ((ev_ushr x 8) &&& 255) hc1 hg0 hg1 (ev_ushr_0 x) rfl rfl rfl (ev_u_1 x) (ev_u_2 x) (ev_ushr_24 x) rfl rfl hb2 hb3 hx
                · have hc3 := hb3
                  exact ev_p1_0_b2zn xs x hy0 (ev_ushr x 8) hy1 (ev_ushr x 16) hy2 (ev_ushr x 24) (x &&& 255) hc0 ((ev_ushr x 8) &&& 255) hc1 ((ev_ushr x 24) &&& 255) hc3 hg0 hg1 (ev_ushr_0 x) rfl rfl rfl (ev_u_1 x) (ev_u_2 x) (ev_ushr_24 x) rfl rfl hb2 rfl hx
              · have hc2 := hb2
                by_cases hb3 : ((ev_ushr x 24) &&& 255) = 0
                · skip
                  exact ev_p1_0_b2bz xs x hy0 (ev_ushr x 8) hy1 (ev_ushr x 16) hy2 (ev_ushr x 24) (x &&& 255) hc0 ((ev_ushr x 8) &&& 255) hc1 ((ev_ushr x 16) &&& 255) hc2 hg0 hg1 hg2 (ev_ushr_0 x) rfl rfl rfl (ev_u_1 x) (ev_u_2 x) (ev_ushr_24 x) rfl rfl rfl hb3 hx
                · have hc3 := hb3
                  exact ev_p1_0_b2bn xs x hy0 (ev_ushr x 8) hy1 (ev_ushr x 16) hy2 (ev_ushr x 24) (x &&& 255) hc0 ((ev_ushr x 8) &&& 255) hc1 ((ev_ushr x 16) &&& 255) hc2 ((ev_ushr x 24) &&& 255) hc3 hg0 hg1 hg2 (ev_ushr_0 x) rfl rfl rfl (ev_u_1 x) (ev_u_2 x) (ev_ushr_24 x) rfl rfl rfl rfl hx
        · by_cases hb1 : ((ev_ushr x 8) &&& 255) = 0
          · skip
            by_cases hb2 : ((ev_ushr x 16) &&& 255) = 0
            · skip
              by_cases hb3 : ((ev_ushr x 24) &&& 255) = 0
              · skip
                exact ev_p1_0_b1zzz xs x hy0 (ev_ushr x 8) hy1 (ev_ushr x 16) (ev_ushr x 24) (x &&& 255) hc0 hg0 (ev_ushr_0 x) rfl rfl rfl (ev_u_1 x) (ev_u_2 x) (ev_ushr_24 x) rfl hb1 hb2 hb3 hx
              · have hc3 := hb3
                exact ev_p1_0_b1zzn xs x hy0 (ev_ushr x 8) hy1 (ev_ushr x 16) (ev_ushr x 24) (x &&& 255) hc0 ((ev_ushr x 24) &&& 255) hc3 hg0 (ev_ushr_0 x) rfl rfl rfl (ev_u_1 x) (ev_u_2 x) (ev_ushr_24 x) rfl hb1 hb2 rfl hx
            · have hc2 := hb2
              by_cases hb3 : ((ev_ushr x 24) &&& 255) = 0
              · skip
                exact ev_p1_0_b1znz xs x hy0 (ev_ushr x 8) hy1 (ev_ushr x 16) (ev_ushr x 24) (x &&& 255) hc0 ((ev_ushr x 16) &&& 255) hc2 hg0 (ev_ushr_0 x) rfl rfl rfl (ev_u_1 x) (ev_u_2 x) (ev_ushr_24 x) rfl hb1 rfl hb3 hx
              · have hc3 := hb3
                exact ev_p1_0_b1znn xs x hy0 (ev_ushr x 8) hy1 (ev_ushr x 16) (ev_ushr x 24) (x &&& 255) hc0 ((ev_ushr x 16) &&& 255) hc2 ((ev_ushr x 24) &&& 255) hc3 hg0 (ev_ushr_0 x) rfl rfl rfl (ev_u_1 x) (ev_u_2 x) (ev_ushr_24 x) rfl hb1 rfl rfl hx
          · have hc1 := hb1
            by_cases hb2 : ((ev_ushr x 16) &&& 255) = 0
            · skip
              by_cases hb3 : ((ev_ushr x 24) &&& 255) = 0
              · skip
                exact ev_p1_0_b1bzz xs x hy0 (ev_ushr x 8) hy1 (ev_ushr x 16) (ev_ushr x 24) (x &&& 255) hc0 ((ev_ushr x 8) &&& 255) hc1 hg0 hg1 (ev_ushr_0 x) rfl rfl rfl (ev_u_1 x) (ev_u_2 x) (ev_ushr_24 x) rfl rfl hb2 hb3 hx
              · have hc3 := hb3
                exact ev_p1_0_b1bzn xs x hy0 (ev_ushr x 8) hy1 (ev_ushr x 16) (ev_ushr x 24) (x &&& 255) hc0 ((ev_ushr x 8) &&& 255) hc1 ((ev_ushr x 24) &&& 255) hc3 hg0 hg1 (ev_ushr_0 x) rfl rfl rfl (ev_u_1 x) (ev_u_2 x) (ev_ushr_24 x) rfl rfl hb2 rfl hx
            · have hc2 := hb2
              by_cases hb3 : ((ev_ushr x 24) &&& 255) = 0
              · skip
                exact ev_p1_0_b1bnz xs x hy0 (ev_ushr x 8) hy1 (ev_ushr x 16) (ev_ushr x 24) (x &&& 255) hc0 ((ev_ushr x 8) &&& 255) hc1 ((ev_ushr x 16) &&& 255) hc2 hg0 hg1 (ev_ushr_0 x) rfl rfl rfl (ev_u_1 x) (ev_u_2 x) (ev_ushr_24 x) rfl rfl rfl hb3 hx
              · have hc3 := hb3
                exact ev_p1_0_b1bnn xs x hy0 (ev_ushr x 8) hy1 (ev_ushr x 16) (ev_ushr x 24) (x &&& 255) hc0 ((ev_ushr x 8) &&& 255) hc1 ((ev_ushr x 16) &&& 255) hc2 ((ev_ushr x 24) &&& 255) hc3 hg0 hg1 (ev_ushr_0 x) rfl rfl rfl (ev_u_1 x) (ev_u_2 x) (ev_ushr_24 x) rfl rfl rfl rfl hx
    · by_cases hb0 : (x &&& 255) = 0
      · skip
        by_cases hb1 : ((ev_ushr x 8) &&& 255) = 0
        · skip
          by_cases hb2 : ((ev_ushr x 16) &&& 255) = 0
          · skip
            by_cases hb3 : ((ev_ushr x 24) &&& 255) = 0
            · skip
              exact ev_p1_0_b0zzzz xs x hy0 (ev_ushr x 8) (ev_ushr x 16) (ev_ushr x 24) (ev_ushr_0 x) rfl rfl rfl (ev_u_1 x) (ev_u_2 x) (ev_ushr_24 x) hb0 hb1 hb2 hb3 hx
            · have hc3 := hb3
              exact ev_p1_0_b0zzzn xs x hy0 (ev_ushr x 8) (ev_ushr x 16) (ev_ushr x 24) ((ev_ushr x 24) &&& 255) hc3 (ev_ushr_0 x) rfl rfl rfl (ev_u_1 x) (ev_u_2 x) (ev_ushr_24 x) hb0 hb1 hb2 rfl hx
          · have hc2 := hb2
            by_cases hb3 : ((ev_ushr x 24) &&& 255) = 0
            · skip
              exact ev_p1_0_b0zznz xs x hy0 (ev_ushr x 8) (ev_ushr x 16) (ev_ushr x 24) ((ev_ushr x 16) &&& 255) hc2 (ev_ushr_0 x) rfl rfl rfl (ev_u_1 x) (ev_u_2 x) (ev_ushr_24 x) hb0 hb1 rfl hb3 hx
            · have hc3 := hb3
              exact ev_p1_0_b0zznn xs x hy0 (ev_ushr x 8) (ev_ushr x 16) (ev_ushr x 24) ((ev_ushr x 16) &&& 255) hc2 ((ev_ushr x 24) &&& 255) hc3 (ev_ushr_0 x) rfl rfl rfl (ev_u_1 x) (ev_u_2 x) (ev_ushr_24 x) hb0 hb1 rfl rfl hx
        · have hc1 := hb1
          by_cases hb2 : ((ev_ushr x 16) &&& 255) = 0
          · skip
            by_cases hb3 : ((ev_ushr x 24) &&& 255) = 0
            · skip
              exact ev_p1_0_b0znzz xs x hy0 (ev_ushr x 8) (ev_ushr x 16) (ev_ushr x 24) ((ev_ushr x 8) &&& 255) hc1 (ev_ushr_0 x) rfl rfl rfl (ev_u_1 x) (ev_u_2 x) (ev_ushr_24 x) hb0 rfl hb2 hb3 hx
            · have hc3 := hb3
              exact ev_p1_0_b0znzn xs x hy0 (ev_ushr x 8) (ev_ushr x 16) (ev_ushr x 24) ((ev_ushr x 8) &&& 255) hc1 ((ev_ushr x 24) &&& 255) hc3 (ev_ushr_0 x) rfl rfl rfl (ev_u_1 x) (ev_u_2 x) (ev_ushr_24 x) hb0 rfl hb2 rfl hx
          · have hc2 := hb2
            by_cases hb3 : ((ev_ushr x 24) &&& 255) = 0
            · skip
              exact ev_p1_0_b0znnz xs x hy0 (ev_ushr x 8) (ev_ushr x 16) (ev_ushr x 24) ((ev_ushr x 8) &&& 255) hc1 ((ev_ushr x 16) &&& 255) hc2 (ev_ushr_0 x) rfl rfl rfl (ev_u_1 x) (ev_u_2 x) (ev_ushr_24 x) hb0 rfl rfl hb3 hx
            · have hc3 := hb3
              exact ev_p1_0_b0znnn xs x hy0 (ev_ushr x 8) (ev_ushr x 16) (ev_ushr x 24) ((ev_ushr x 8) &&& 255) hc1 ((ev_ushr x 16) &&& 255) hc2 ((ev_ushr x 24) &&& 255) hc3 (ev_ushr_0 x) rfl rfl rfl (ev_u_1 x) (ev_u_2 x) (ev_ushr_24 x) hb0 rfl rfl rfl hx
      · have hc0 := hb0
        by_cases hb1 : ((ev_ushr x 8) &&& 255) = 0
        · skip
          by_cases hb2 : ((ev_ushr x 16) &&& 255) = 0
          · skip
            by_cases hb3 : ((ev_ushr x 24) &&& 255) = 0
            · skip
              exact ev_p1_0_b0bzzz xs x hy0 (ev_ushr x 8) (ev_ushr x 16) (ev_ushr x 24) (x &&& 255) hc0 hg0 (ev_ushr_0 x) rfl rfl rfl (ev_u_1 x) (ev_u_2 x) (ev_ushr_24 x) rfl hb1 hb2 hb3 hx
            · have hc3 := hb3
              exact ev_p1_0_b0bzzn xs x hy0 (ev_ushr x 8) (ev_ushr x 16) (ev_ushr x 24) (x &&& 255) hc0 ((ev_ushr x 24) &&& 255) hc3 hg0 (ev_ushr_0 x) rfl rfl rfl (ev_u_1 x) (ev_u_2 x) (ev_ushr_24 x) rfl hb1 hb2 rfl hx
          · have hc2 := hb2
            by_cases hb3 : ((ev_ushr x 24) &&& 255) = 0
            · skip
              exact ev_p1_0_b0bznz xs x hy0 (ev_ushr x 8) (ev_ushr x 16) (ev_ushr x 24) (x &&& 255) hc0 ((ev_ushr x 16) &&& 255) hc2 hg0 (ev_ushr_0 x) rfl rfl rfl (ev_u_1 x) (ev_u_2 x) (ev_ushr_24 x) rfl hb1 rfl hb3 hx
            · have hc3 := hb3
              exact ev_p1_0_b0bznn xs x hy0 (ev_ushr x 8) (ev_ushr x 16) (ev_ushr x 24) (x &&& 255) hc0 ((ev_ushr x 16) &&& 255) hc2 ((ev_ushr x 24) &&& 255) hc3 hg0 (ev_ushr_0 x) rfl rfl rfl (ev_u_1 x) (ev_u_2 x) (ev_ushr_24 x) rfl hb1 rfl rfl hx
        · have hc1 := hb1
          by_cases hb2 : ((ev_ushr x 16) &&& 255) = 0
          · skip
            by_cases hb3 : ((ev_ushr x 24) &&& 255) = 0
            · skip
              exact ev_p1_0_b0bnzz xs x hy0 (ev_ushr x 8) (ev_ushr x 16) (ev_ushr x 24) (x &&& 255) hc0 ((ev_ushr x 8) &&& 255) hc1 hg0 (ev_ushr_0 x) rfl rfl rfl (ev_u_1 x) (ev_u_2 x) (ev_ushr_24 x) rfl rfl hb2 hb3 hx
            · have hc3 := hb3
              exact ev_p1_0_b0bnzn xs x hy0 (ev_ushr x 8) (ev_ushr x 16) (ev_ushr x 24) (x &&& 255) hc0 ((ev_ushr x 8) &&& 255) hc1 ((ev_ushr x 24) &&& 255) hc3 hg0 (ev_ushr_0 x) rfl rfl rfl (ev_u_1 x) (ev_u_2 x) (ev_ushr_24 x) rfl rfl hb2 rfl hx
          · have hc2 := hb2
            by_cases hb3 : ((ev_ushr x 24) &&& 255) = 0
            · skip
              exact ev_p1_0_b0bnnz xs x hy0 (ev_ushr x 8) (ev_ushr x 16) (ev_ushr x 24) (x &&& 255) hc0 ((ev_ushr x 8) &&& 255) hc1 ((ev_ushr x 16) &&& 255) hc2 hg0 (ev_ushr_0 x) rfl rfl rfl (ev_u_1 x) (ev_u_2 x) (ev_ushr_24 x) rfl rfl rfl hb3 hx
            · have hc3 := hb3
              exact ev_p1_0_b0bnnn xs x hy0 (ev_ushr x 8) (ev_ushr x 16) (ev_ushr x 24) (x &&& 255) hc0 ((ev_ushr x 8) &&& 255) hc1 ((ev_ushr x 16) &&& 255) hc2 ((ev_ushr x 24) &&& 255) hc3 hg0 (ev_ushr_0 x) rfl rfl rfl (ev_u_1 x) (ev_u_2 x) (ev_ushr_24 x) rfl rfl rfl rfl hx
