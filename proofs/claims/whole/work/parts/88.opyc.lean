/-! LITERAL: how many bits a long has -/
section OPYC
variable {k n m b a c i : Nat}
def un (x : Int64) : Nat := x.toBitVec.toNat
theorem un_lt (x : Int64) : un x < 18446744073709551616 := x.toBitVec.isLt
theorem lb_un (x : Int64) (i : Nat) : lb x i = (un x).testBit i := rfl
theorem un_and (x y : Int64) : un (x &&& y) = un x &&& un y := by
  unfold un
  rw [Int64.toBitVec_and, BitVec.toNat_and]
theorem un_shr (x : Int64) {k : Int} (hk : 0 ≤ k ∧ k < 64) : un (ev_lushr x k) = un x / 2 ^ k.toNat := by
  refine Nat.eq_of_testBit_eq fun i => ?_
  rw [← lb_un, lb_ushr x hk, lb_un, ← Nat.shiftRight_eq_div_pow, Nat.testBit_shiftRight]
theorem un_sub {x y : Int64} (h : un y ≤ un x) : un (x - y) = un x - un y := by
  unfold un at h ⊢
  rw [Int64.toBitVec_sub]
  exact BitVec.toNat_sub_of_le h
theorem un_add {x y : Int64} (h : un x + un y < 18446744073709551616) : un (x + y) = un x + un y := by
  unfold un at h ⊢
  rw [Int64.toBitVec_add, BitVec.toNat_add]
  exact Nat.mod_eq_of_lt h
theorem and8 (hb : b < 256) (hm : m < 256) : (b + 256 * a) &&& (m + 256 * c) = (b &&& m) + 256 * (a &&& c) := by
  have hbm : b &&& m < 2 ^ 8 := Nat.lt_of_le_of_lt Nat.and_le_left hb
  refine Nat.eq_of_testBit_eq fun i => ?_
  rw [Nat.testBit_and, show b + 256 * a = 2 ^ 8 * a + b from by omega, show m + 256 * c = 2 ^ 8 * c + m from by omega, show (b &&& m) + 256 * (a &&& c) = 2 ^ 8 * (a &&& c) + (b &&& m) from by omega, Nat.testBit_two_pow_mul_add _ (show b < 2 ^ 8 from hb), Nat.testBit_two_pow_mul_add _ (show m < 2 ^ 8 from hm), Nat.testBit_two_pow_mul_add _ hbm]
  by_cases h : i < 8
  · rw [if_pos h, if_pos h, if_pos h, Nat.testBit_and]
  · rw [if_neg h, if_neg h, if_neg h, Nat.testBit_and]
/-- a mask, byte by byte -/
def mkm (m : Nat) : Nat → Nat
  | 0 => 0
  | n + 1 => m + 256 * mkm m n
/-- a function of bytes, byte by byte -/
def bym (f : Nat → Nat) : Nat → Nat → Nat
  | 0, _ => 0
  | n + 1, X => f (X % 256) + 256 * bym f n (X / 256)
def smm (f : Nat → Nat) : Nat → Nat → Nat
  | 0, _ => 0
  | n + 1, X => f (X % 256) + smm f n (X / 256)
def p256 : Nat → Nat
  | 0 => 1
  | n + 1 => 256 * p256 n
theorem bym_lt {f : Nat → Nat} (hf : ∀ b, b < 256 → f b < 256) : ∀ n X, bym f n X < p256 n := fun n => by
  induction n with
  | zero => exact fun _ => Nat.zero_lt_one
  | succ n ih =>
    intro X
    have h1 := ih (X / 256)
    have h2 := hf (X % 256) (by omega)
    show f (X % 256) + 256 * bym f n (X / 256) < 256 * p256 n
    omega
theorem bym_m {f g : Nat → Nat} (hg : ∀ b, b < 256 → g b < 256) : ∀ n X, bym f n (bym g n X) = bym (fun b => f (g b)) n X := fun n => by
  induction n with
  | zero => exact fun _ => rfl
  | succ n ih =>
    intro X
    have h2 := hg (X % 256) (by omega)
    show f ((g (X % 256) + 256 * bym g n (X / 256)) % 256) + 256 * bym f n ((g (X % 256) + 256 * bym g n (X / 256)) / 256) = f (g (X % 256)) + 256 * bym (fun b => f (g b)) n (X / 256)
    rw [show (g (X % 256) + 256 * bym g n (X / 256)) % 256 = g (X % 256) from by omega, show (g (X % 256) + 256 * bym g n (X / 256)) / 256 = bym g n (X / 256) from by omega, ih]
theorem bym_id : ∀ n X, X < p256 n → bym (fun b => b) n X = X := fun n => by
  induction n with
  | zero =>
    intro X h
    have : X < 1 := h
    show 0 = X
    omega
  | succ n ih =>
    intro X h
    have h' : X < 256 * p256 n := h
    show X % 256 + 256 * bym (fun b => b) n (X / 256) = X
    rw [ih (X / 256) (by omega)]
    omega
theorem bym_sub {f : Nat → Nat} (hf : ∀ b, b < 256 → f b ≤ b) : ∀ n X, X < p256 n → bym f n X ≤ X ∧ X - bym f n X = bym (fun b => b - f b) n X := fun n => by
  induction n with
  | zero =>
    intro X h
    have : X < 1 := h
    show 0 ≤ X ∧ X - 0 = 0
    omega
  | succ n ih =>
    intro X h
    have h' : X < 256 * p256 n := h
    obtain ⟨h1, h2⟩ := ih (X / 256) (by omega)
    have h3 := hf (X % 256) (by omega)
    show f (X % 256) + 256 * bym f n (X / 256) ≤ X ∧ X - (f (X % 256) + 256 * bym f n (X / 256)) = (X % 256 - f (X % 256)) + 256 * bym (fun b => b - f b) n (X / 256)
    rw [← h2]
    omega
theorem bym_add {f g : Nat → Nat} : ∀ n X, bym f n X + bym g n X = bym (fun b => f b + g b) n X := fun n => by
  induction n with
  | zero => exact fun _ => rfl
  | succ n ih =>
    intro X
    show (f (X % 256) + 256 * bym f n (X / 256)) + (g (X % 256) + 256 * bym g n (X / 256)) = (f (X % 256) + g (X % 256)) + 256 * bym (fun b => f b + g b) n (X / 256)
    rw [← ih]
    omega
theorem and_mk (hm : m < 256) : ∀ n X, X &&& mkm m n = bym (fun b => b &&& m) n X := fun n => by
  induction n with
  | zero => exact fun X => Nat.and_zero X
  | succ n ih =>
    intro X
    show X &&& (m + 256 * mkm m n) = (X % 256 &&& m) + 256 * bym (fun b => b &&& m) n (X / 256)
    rw [← ih, ← and8 (by omega) hm, show X % 256 + 256 * (X / 256) = X from by omega]
theorem sh_mk {d e : Nat} (hm : m < 256) (hd : (d = 2 ∧ e = 128) ∨ (d = 4 ∧ e = 64)) (hx : ∀ b t : Nat, b < 256 → t < d → (b / d + e * t) &&& m = (b / d) &&& m) : ∀ n X, (X / d) &&& mkm m n = bym (fun b => (b / d) &&& m) n X := fun n => by
  induction n with
  | zero => exact fun X => Nat.and_zero _
  | succ n ih =>
    intro X
    show (X / d) &&& (m + 256 * mkm m n) = ((X % 256 / d) &&& m) + 256 * bym (fun b => (b / d) &&& m) n (X / 256)
    have q : X / d = (X % 256 / d + e * (X / 256 % d)) + 256 * (X / 256 / d) := by
      rcases hd with ⟨h1, h2⟩ | ⟨h1, h2⟩ <;> subst h1 <;> subst h2 <;> omega
    have l : X % 256 / d + e * (X / 256 % d) < 256 := by
      rcases hd with ⟨h1, h2⟩ | ⟨h1, h2⟩ <;> subst h1 <;> subst h2 <;> omega
    have dl : X / 256 % d < d := Nat.mod_lt _ (by omega)
    rw [← ih, q, and8 l hm, hx (X % 256) (X / 256 % d) (by omega) dl]
/-- bytes whose halves are small -/
def gdm : Nat → Nat → Prop
  | 0, Y => Y = 0
  | n + 1, Y => (Y % 256 ≤ 68 ∧ Y % 16 ≤ 4) ∧ gdm n (Y / 256)
theorem gdm_of {g : Nat → Nat} (hg : ∀ b, b < 256 → g b ≤ 68 ∧ g b % 16 ≤ 4) : ∀ n X, gdm n (bym g n X) := fun n => by
  induction n with
  | zero => exact fun _ => rfl
  | succ n ih =>
    intro X
    obtain ⟨h1, h2⟩ := hg (X % 256) (by omega)
    show ((g (X % 256) + 256 * bym g n (X / 256)) % 256 ≤ 68 ∧ (g (X % 256) + 256 * bym g n (X / 256)) % 16 ≤ 4) ∧ gdm n ((g (X % 256) + 256 * bym g n (X / 256)) / 256)
    rw [show (g (X % 256) + 256 * bym g n (X / 256)) / 256 = bym g n (X / 256) from by omega]
    exact ⟨by omega, ih _⟩
theorem nib_d : ∀ b : Fin 69, ∀ t : Fin 5, (b.1 + b.1 / 16 + 16 * t.1) &&& 15 = (b.1 + b.1 / 16) &&& 15 := by decide +kernel
theorem nib_mk : ∀ n Y, gdm n Y → (Y + Y / 16) &&& mkm 15 n = bym (fun b => (b + b / 16) &&& 15) n Y := fun n => by
  induction n with
  | zero => exact fun Y _ => Nat.and_zero _
  | succ n ih =>
    intro Y h
    obtain ⟨⟨h1, h2⟩, h3⟩ := h
    have t4 : Y / 256 % 16 ≤ 4 := by
      cases n with
      | zero =>
        have : Y / 256 = 0 := h3
        omega
      | succ n => exact h3.1.2
    show (Y + Y / 16) &&& (15 + 256 * mkm 15 n) = ((Y % 256 + Y % 256 / 16) &&& 15) + 256 * bym (fun b => (b + b / 16) &&& 15) n (Y / 256)
    have q : Y + Y / 16 = (Y % 256 + Y % 256 / 16 + 16 * (Y / 256 % 16)) + 256 * (Y / 256 + Y / 256 / 16) := by omega
    have d := nib_d ⟨Y % 256, by omega⟩ ⟨Y / 256 % 16, by omega⟩
    have d' : (Y % 256 + Y % 256 / 16 + 16 * (Y / 256 % 16)) &&& 15 = (Y % 256 + Y % 256 / 16) &&& 15 := d
    rw [← ih _ h3, q, and8 (by omega) (by decide), d']
def c1m (b : Nat) : Nat := b - ((b / 2) &&& 85)
def c2m (b : Nat) : Nat := (c1m b &&& 51) + ((c1m b / 4) &&& 51)
def c3m (b : Nat) : Nat := (c2m b + c2m b / 16) &&& 15
def pcm (b : Nat) : Nat := (b.testBit 0).toNat + (b.testBit 1).toNat + (b.testBit 2).toNat + (b.testBit 3).toNat + (b.testBit 4).toNat + (b.testBit 5).toNat + (b.testBit 6).toNat + (b.testBit 7).toNat
theorem by_d : ∀ b : Fin 256, ((b.1 / 2) &&& 85 ≤ b.1 ∧ c1m b.1 < 256) ∧ (c2m b.1 ≤ 68 ∧ c2m b.1 % 16 ≤ 4) ∧ c3m b.1 = pcm b.1 ∧ c3m b.1 ≤ 8 := by decide +kernel
theorem sh_d : (∀ b : Fin 256, ∀ t : Fin 2, (b.1 / 2 + 128 * t.1) &&& 85 = (b.1 / 2) &&& 85) ∧ ∀ b : Fin 256, ∀ t : Fin 4, (b.1 / 4 + 64 * t.1) &&& 51 = (b.1 / 4) &&& 51 := by decide +kernel
theorem bc_un (x : Int64) : un (bc3 (bc2 (bc1 x))) = bym c3m 8 (un x) := by
  have hx := un_lt x
  have hx' : un x < p256 8 := hx
  have m85 : un 6148914691236517205 = mkm 85 8 := by decide
  have m51 : un 3689348814741910323 = mkm 51 8 := by decide
  have m15 : un 1085102592571150095 = mkm 15 8 := by decide
  have s1 : (un x / 2) &&& mkm 85 8 = bym (fun b => (b / 2) &&& 85) 8 (un x) := sh_mk (d := 2) (e := 128) (by decide) (Or.inl ⟨rfl, rfl⟩) (fun b t hb ht => sh_d.1 ⟨b, hb⟩ ⟨t, ht⟩) 8 (un x)
  obtain ⟨s2, s3⟩ := bym_sub (f := fun b => (b / 2) &&& 85) (fun b hb => (by_d ⟨b, hb⟩).1.1) 8 (un x) hx'
  have e1 : un (bc1 x) = bym c1m 8 (un x) := by
    unfold bc1
    have q : un (ev_lushr x 1 &&& 6148914691236517205) = bym (fun b => (b / 2) &&& 85) 8 (un x) := by
      rw [un_and, un_shr x (by decide), m85]
      exact s1
    rw [un_sub (by rw [q]; exact s2), q]
    exact s3
  have c1l : ∀ b, b < 256 → c1m b < 256 := fun b hb => (by_d ⟨b, hb⟩).1.2
  have e2 : un (bc2 (bc1 x)) = bym c2m 8 (un x) := by
    unfold bc2
    have q1 : un (bc1 x &&& 3689348814741910323) = bym (fun b => c1m b &&& 51) 8 (un x) := by
      rw [un_and, m51, e1, and_mk (by decide), bym_m c1l]
    have q2 : un (ev_lushr (bc1 x) 2 &&& 3689348814741910323) = bym (fun b => (c1m b / 4) &&& 51) 8 (un x) := by
      rw [un_and, un_shr (bc1 x) (by decide), m51, e1, show (2 : Nat) ^ (2 : Int).toNat = 4 from rfl, sh_mk (d := 4) (e := 64) (by decide) (Or.inr ⟨rfl, rfl⟩) (fun b t hb ht => sh_d.2 ⟨b, hb⟩ ⟨t, ht⟩), bym_m c1l]
    have q3 : bym (fun b => c1m b &&& 51) 8 (un x) + bym (fun b => (c1m b / 4) &&& 51) 8 (un x) = bym c2m 8 (un x) := bym_add 8 (un x)
    have lt : bym c2m 8 (un x) < p256 8 := bym_lt (fun b hb => by have := (by_d ⟨b, hb⟩).2.1.1; have t : c2m b ≤ 68 := this; omega) 8 (un x)
    rw [un_add (by rw [q1, q2, q3]; exact lt), q1, q2, q3]
  unfold bc3
  have gd : gdm 8 (bym c2m 8 (un x)) := gdm_of (fun b hb => (by_d ⟨b, hb⟩).2.1) 8 (un x)
  have lt : bym c2m 8 (un x) + bym c2m 8 (un x) / 16 < 18446744073709551616 := by
    have l := bym_lt (f := c2m) (fun b hb => by have := (by_d ⟨b, hb⟩).2.1.1; have t : c2m b ≤ 68 := this; omega) 7 (un x / 256)
    have l7 := gd
    obtain ⟨⟨_, _⟩, ⟨_, _⟩, ⟨_, _⟩, ⟨_, _⟩, ⟨_, _⟩, ⟨_, _⟩, ⟨_, _⟩, ⟨g1, _⟩, g2⟩ := l7
    have g3 : bym c2m 8 (un x) / 256 / 256 / 256 / 256 / 256 / 256 / 256 / 256 = 0 := g2
    omega
  have q4 : un (ev_lushr (bc2 (bc1 x)) 4) = bym c2m 8 (un x) / 16 := by
    rw [un_shr _ (by decide), e2]
    rfl
  rw [un_and, m15, un_add (by rw [e2, q4]; exact lt), e2, q4, nib_mk 8 _ gd, bym_m (fun b hb => by have := (by_d ⟨b, hb⟩).2.1.1; have t : c2m b ≤ 68 := this; omega)]
  rfl
theorem l2i_127 (y : Int64) : ev_iand (ev_l2i y) 127 = ((un y % 128 : Nat) : Int) := by
  unfold ev_iand ev_l2i
  rw [Int32.ofInt_toInt]
  have e : (y.toInt32 &&& Int32.ofInt 127).toBitVec.toNat = un y % 128 := by
    rw [Int32.toBitVec_and, BitVec.toNat_and]
    have h1 : y.toInt32.toBitVec.toNat = un y % 4294967296 := by
      unfold un
      show (BitVec.signExtend 32 y.toBitVec).toNat = _
      rw [BitVec.signExtend_eq_setWidth_of_le _ (by decide), BitVec.toNat_setWidth]
    have h2 : (Int32.ofInt 127).toBitVec.toNat = 2 ^ 7 - 1 := by decide
    rw [h1, h2, Nat.and_two_pow_sub_one_eq_mod]
    omega
  have l : (y.toInt32 &&& Int32.ofInt 127).toBitVec.toNat < 128 := by
    rw [e]
    omega
  have q : (y.toInt32 &&& Int32.ofInt 127).toInt = ((y.toInt32 &&& Int32.ofInt 127).toBitVec.toNat : Int) := BitVec.toInt_eq_toNat_of_lt (by omega)
  rw [q, e]
/-- the count is the sum over the bytes -/
theorem bc_sum (x : Int64) : bcC x = ((smm pcm 8 (un x) : Nat) : Int) := by
  unfold bcC
  rw [l2i_127]
  obtain ⟨z, hz⟩ : ∃ z, z = bc3 (bc2 (bc1 x)) := ⟨_, rfl⟩
  have ez : un z = bym c3m 8 (un x) := by
    rw [hz]
    exact bc_un x
  rw [← hz]
  have pb : ∀ X : Nat, c3m (X % 256) = pcm (X % 256) ∧ c3m (X % 256) ≤ 8 := fun X => ⟨(by_d ⟨X % 256, by omega⟩).2.2.1, (by_d ⟨X % 256, by omega⟩).2.2.2⟩
  have ex : bym c3m 8 (un x) = c3m (un x % 256) + 256 * (c3m (un x / 256 % 256) + 256 * (c3m (un x / 256 / 256 % 256) + 256 * (c3m (un x / 256 / 256 / 256 % 256) + 256 * (c3m (un x / 256 / 256 / 256 / 256 % 256) + 256 * (c3m (un x / 256 / 256 / 256 / 256 / 256 % 256) + 256 * (c3m (un x / 256 / 256 / 256 / 256 / 256 / 256 % 256) + 256 * (c3m (un x / 256 / 256 / 256 / 256 / 256 / 256 / 256 % 256) + 256 * 0))))))) := rfl
  have es : smm pcm 8 (un x) = pcm (un x % 256) + (pcm (un x / 256 % 256) + (pcm (un x / 256 / 256 % 256) + (pcm (un x / 256 / 256 / 256 % 256) + (pcm (un x / 256 / 256 / 256 / 256 % 256) + (pcm (un x / 256 / 256 / 256 / 256 / 256 % 256) + (pcm (un x / 256 / 256 / 256 / 256 / 256 / 256 % 256) + (pcm (un x / 256 / 256 / 256 / 256 / 256 / 256 / 256 % 256) + 0))))))) := rfl
  rw [es, ← (pb (un x)).1, ← (pb (un x / 256)).1, ← (pb (un x / 256 / 256)).1, ← (pb (un x / 256 / 256 / 256)).1, ← (pb (un x / 256 / 256 / 256 / 256)).1, ← (pb (un x / 256 / 256 / 256 / 256 / 256)).1, ← (pb (un x / 256 / 256 / 256 / 256 / 256 / 256)).1, ← (pb (un x / 256 / 256 / 256 / 256 / 256 / 256 / 256)).1]
  have b0 := (pb (un x)).2
  have b1 := (pb (un x / 256)).2
  have b2 := (pb (un x / 256 / 256)).2
  have b3 := (pb (un x / 256 / 256 / 256)).2
  have b4 := (pb (un x / 256 / 256 / 256 / 256)).2
  have b5 := (pb (un x / 256 / 256 / 256 / 256 / 256)).2
  have b6 := (pb (un x / 256 / 256 / 256 / 256 / 256 / 256)).2
  have b7 := (pb (un x / 256 / 256 / 256 / 256 / 256 / 256 / 256)).2
  rw [ex] at ez
  generalize c3m (un x % 256) = p0 at *
  generalize c3m (un x / 256 % 256) = p1 at *
  generalize c3m (un x / 256 / 256 % 256) = p2 at *
  generalize c3m (un x / 256 / 256 / 256 % 256) = p3 at *
  generalize c3m (un x / 256 / 256 / 256 / 256 % 256) = p4 at *
  generalize c3m (un x / 256 / 256 / 256 / 256 / 256 % 256) = p5 at *
  generalize c3m (un x / 256 / 256 / 256 / 256 / 256 / 256 % 256) = p6 at *
  generalize c3m (un x / 256 / 256 / 256 / 256 / 256 / 256 / 256 % 256) = p7 at *
  clear ex es pb hz
  have u8 : un (ev_lushr z 8) = p1 + 256 * p2 + 65536 * p3 + 16777216 * p4 + 4294967296 * p5 + 1099511627776 * p6 + 281474976710656 * p7 := by
    rw [un_shr z (by decide), show (2 : Nat) ^ (8 : Int).toNat = 256 from rfl, ez]
    omega
  have ya : un (z + ev_lushr z 8) = (p0 + p1) + 256 * (p1 + p2) + 65536 * (p2 + p3) + 16777216 * (p3 + p4) + 4294967296 * (p4 + p5) + 1099511627776 * (p5 + p6) + 281474976710656 * (p6 + p7) + 72057594037927936 * p7 := by
    rw [un_add (by rw [u8, ez]; omega), u8, ez]
    omega
  obtain ⟨y, hy⟩ : ∃ y, y = z + ev_lushr z 8 := ⟨_, rfl⟩
  have e4 : bc4 z = y + ev_lushr y 16 := by
    unfold bc4
    rw [hy]
  rw [← hy] at ya
  have u16 : un (ev_lushr y 16) = (p2 + p3) + 256 * (p3 + p4) + 65536 * (p4 + p5) + 16777216 * (p5 + p6) + 4294967296 * (p6 + p7) + 1099511627776 * p7 := by
    rw [un_shr y (by decide), show (2 : Nat) ^ (16 : Int).toNat = 65536 from rfl, ya]
    omega
  have yb : un (bc4 z) = (p0 + p1 + p2 + p3) + 256 * (p1 + p2 + p3 + p4) + 65536 * (p2 + p3 + p4 + p5) + 16777216 * (p3 + p4 + p5 + p6) + 4294967296 * (p4 + p5 + p6 + p7) + 1099511627776 * (p5 + p6 + p7) + 281474976710656 * (p6 + p7) + 72057594037927936 * p7 := by
    rw [e4, un_add (by rw [u16, ya]; omega), u16, ya]
    omega
  generalize bc4 z = w at yb
  have u32 : un (ev_lushr w 32) = (p4 + p5 + p6 + p7) + 256 * (p5 + p6 + p7) + 65536 * (p6 + p7) + 16777216 * p7 := by
    rw [un_shr w (by decide), show (2 : Nat) ^ (32 : Int).toNat = 4294967296 from rfl, yb]
    omega
  rw [un_add (by rw [u32, yb]; omega), u32, yb]
  omega
end OPYC
