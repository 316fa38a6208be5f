/-! THE READER: where the next item begins, by the signs alone -/
section RNX
def rsl (d : Int) : Int := if d = 63 ∨ d = 43 then 1 else 0
/-- letters of switches -/
def swl (c : Int → Int) : Nat → Int → Int
  | 0, _ => 0
  | n + 1, p => if c p = 105 ∨ c p = 115 ∨ c p = 109 then 1 + swl c n (p + 1) else 0
def swE (c : Int → Int) (p : Int) : Int := if c (p + swl c 160 p) = 45 then p + swl c 160 p + 1 + swl c 160 (p + swl c 160 p + 1) + 1 else p + swl c 160 p + 1
def bnd (c : Int → Int) (p : Int) : Int := if c (p + 1 + nbl (c (p + 1)) (c (p + 2))) = 44 then (if c (p + 2 + nbl (c (p + 1)) (c (p + 2))) = 125 then p + 3 + nbl (c (p + 1)) (c (p + 2)) + rsl (c (p + 3 + nbl (c (p + 1)) (c (p + 2)))) else p + 3 + nbl (c (p + 1)) (c (p + 2)) + nbl (c (p + 2 + nbl (c (p + 1)) (c (p + 2)))) (c (p + 3 + nbl (c (p + 1)) (c (p + 2)))) + rsl (c (p + 3 + nbl (c (p + 1)) (c (p + 2)) + nbl (c (p + 2 + nbl (c (p + 1)) (c (p + 2)))) (c (p + 3 + nbl (c (p + 1)) (c (p + 2))))))) else p + 2 + nbl (c (p + 1)) (c (p + 2)) + rsl (c (p + 2 + nbl (c (p + 1)) (c (p + 2))))
def nxb (c : Int → Int) (p : Int) : Int := if c (p + 1) = 42 then p + 4 else if c (p + 1) ≠ 63 then p + 1 else if c (p + 2) = 60 then (if c (p + 3) = 61 ∨ c (p + 3) = 33 then p + 4 else p + 5) else if c (p + 2) = 58 ∨ c (p + 2) = 62 ∨ c (p + 2) = 61 ∨ c (p + 2) = 33 then p + 3 else if c (p + 2) = 40 ∨ c (p + 2) = 38 then p + 5 else if ch_d (c (p + 2)) ≠ 0 then p + 4 else swE c (p + 2)
def nx (c : Int → Int) (p : Int) : Int := if c p = 40 then nxb c p else if c p = 91 then clF c 130 (if c (p + 1) = 94 then p + 2 else p + 1) 0 else if c p = 92 then (if c (p + 1) = 107 then p + 5 else p + 2) else if c p = 63 ∨ c p = 42 ∨ c p = 43 then p + 1 + rsl (c (p + 1)) else if c p = 123 then bnd c p else p + 1
/-- a part is told there -/
def icl (c : Int → Int) (p : Int) (l : Nat) : Prop := c p = 40 ∧ c (p + 1) = 63 ∧ c (p + 2) = 38 ∧ c (p + 3) = 97 + (l : Int)
/-- what a text's reading comes to -/
def nxi (c : Int → Int) : Nat → Int
  | 0 => 0
  | n + 1 => nx c (nxi c n)
def vis (c : Int → Int) (p : Int) : Prop := ∃ n, nxi c n = p
theorem vis_0 {c : Int → Int} : vis c 0 := ⟨0, rfl⟩
theorem vis_s {c : Int → Int} {p : Int} (h : vis c p) : vis c (nx c p) := by
  obtain ⟨n, hn⟩ := h
  exact ⟨n + 1, by rw [← hn]; rfl⟩
end RNX
