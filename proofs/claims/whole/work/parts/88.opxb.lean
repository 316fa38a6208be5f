/-! PROGRAMS: the code of a pattern, as a function of its tables -/
section PROG11
variable {k N M m t p : Nat} {φ ψ own up : Nat → Nat} {S T : ev_St}
/-- a node's code with its repeat -/
def rpC (T : ev_St) (m : Nat) (Y : List INS) : List INS := if tR T m = -1 then Y else if tR T m = 0 then repL 3 (tL T m) (tH T m) Y else repL 4 (tL T m) (tH T m) Y
def codeA (k : Nat) (φ : Nat → Nat) (S T : ev_St) : Nat → Nat → List INS
  | 0, _ => []
  | n + 1, m => if tK T m = 0 then [(0, 0, S.2.1 (k + 8) (φ m), S.2.1 (k + 9) (φ m))] else if tK T m ≤ 6 then [ins 1 (S.1 (k + 1) (φ m))] else if tK T m = 18 then ((lstC (tX T) 320 (tC T m)).map fun t => rpC T t (codeA k φ S T n t)).flatten else if tK T m = 8 then ins 5 (2 * T.1 628 (3840 + m)) :: cdR ((lstC (tX T) 320 (tC T m)).map fun t => rpC T t (codeA k φ S T n t)) ++ [ins 5 (2 * T.1 628 (3840 + m) + 1)] else if tK T m = 9 then cdR ((lstC (tX T) 320 (tC T m)).map fun t => rpC T t (codeA k φ S T n t)) else []
theorem codeA_f (hF : FINX k N M φ ψ own up S T) : ∀ (n n' m : Nat), m < N → N ≤ m + n → N ≤ m + n' → codeA k φ S T n m = codeA k φ S T n' m := fun n => by
  have h := TREE_of hF
  induction n with
  | zero => intro n' m h1 h2; omega
  | succ n ih =>
    intro n' m h1 h2 h3
    obtain ⟨b, rfl⟩ : ∃ b, n' = b + 1 := ⟨n' - 1, by omega⟩
    have e : ((lstC (tX T) 320 (tC T m)).map fun t => rpC T t (codeA k φ S T n t)) = ((lstC (tX T) 320 (tC T m)).map fun t => rpC T t (codeA k φ S T b t)) := List.map_congr_left fun t ht => by
      have kt := lst_mb (Kid_X h) 320 0 _ (Kid_C h h1) t ht
      have lt := UP_lt hF kt.1 kt.2.1 kt.2.2.1
      rw [ih b t kt.1 (by omega) (by omega)]
    unfold codeA
    rw [e]
/-- the code of each node -/
def cA (k N : Nat) (φ : Nat → Nat) (S T : ev_St) (m : Nat) : List INS := codeA k φ S T N m
def cI (k N : Nat) (φ : Nat → Nat) (S T : ev_St) (m : Nat) : List INS := rpC T m (cA k N φ S T m)
theorem CDQ_c (hF : FINX k N M φ ψ own up S T) : CDQ k N φ S T (cA k N φ S T) (cI k N φ S T) := fun m hm => by
  have h := TREE_of hF
  obtain ⟨n, hn⟩ : ∃ n, N = n + 1 := ⟨N - 1, by omega⟩
  have e : ((lstC (tX T) 320 (tC T m)).map fun t => rpC T t (codeA k φ S T n t)) = (lstC (tX T) 320 (tC T m)).map (cI k N φ S T) := List.map_congr_left fun t ht => by
    have kt := lst_mb (Kid_X h) 320 0 _ (Kid_C h hm) t ht
    have lt := UP_lt hF kt.1 kt.2.1 kt.2.2.1
    show rpC T t (codeA k φ S T n t) = rpC T t (codeA k φ S T N t)
    rw [codeA_f hF n N t kt.1 (by omega) (by omega)]
  have st : cA k N φ S T m = if tK T m = 0 then [(0, 0, S.2.1 (k + 8) (φ m), S.2.1 (k + 9) (φ m))] else if tK T m ≤ 6 then [ins 1 (S.1 (k + 1) (φ m))] else if tK T m = 18 then ((lstC (tX T) 320 (tC T m)).map (cI k N φ S T)).flatten else if tK T m = 8 then ins 5 (2 * T.1 628 (3840 + m)) :: cdR ((lstC (tX T) 320 (tC T m)).map (cI k N φ S T)) ++ [ins 5 (2 * T.1 628 (3840 + m) + 1)] else if tK T m = 9 then cdR ((lstC (tX T) 320 (tC T m)).map (cI k N φ S T)) else [] := by
    rw [← e]
    have q : ∀ a, a = n + 1 → codeA k φ S T a m = if tK T m = 0 then [(0, 0, S.2.1 (k + 8) (φ m), S.2.1 (k + 9) (φ m))] else if tK T m ≤ 6 then [ins 1 (S.1 (k + 1) (φ m))] else if tK T m = 18 then ((lstC (tX T) 320 (tC T m)).map fun t => rpC T t (codeA k φ S T n t)).flatten else if tK T m = 8 then ins 5 (2 * T.1 628 (3840 + m)) :: cdR ((lstC (tX T) 320 (tC T m)).map fun t => rpC T t (codeA k φ S T n t)) ++ [ins 5 (2 * T.1 628 (3840 + m) + 1)] else if tK T m = 9 then cdR ((lstC (tX T) 320 (tC T m)).map fun t => rpC T t (codeA k φ S T n t)) else [] := fun a ha => by
      rw [ha]
      rfl
    exact q N hn
  refine ⟨fun z => ?_, fun z => ?_, fun z => ?_, fun z => ?_, fun z => ?_, fun z => ?_, fun z => ?_, fun z => ?_⟩
  · rw [st, if_pos z]
  · rw [st, if_neg (by omega), if_pos z.2]
  · rw [st, if_neg (by omega), if_neg (by omega), if_pos z]
  · rw [st, if_neg (by omega), if_neg (by omega), if_neg (by omega), if_pos z]
  · rw [st, if_neg (by omega), if_neg (by omega), if_neg (by omega), if_neg (by omega), if_pos z]
  · exact if_pos z
  · unfold cI rpC
    rw [if_neg (by omega), if_pos z]
  · unfold cI rpC
    rw [if_neg (by omega), if_neg (by omega)]
end PROG11
