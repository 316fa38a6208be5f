/-! PROGRAMS: jumps and forks stay within -/
section PROG12
variable {k N M m t p : Nat} {φ ψ own up : Nat → Nat} {S T : ev_St} {CA CI : Nat → List INS}
/-- an instruction at i of n goes to a place up to n; what is none is small -/
def tgI (i n : Nat) (x : INS) : Prop := ((x.1 = 2 ∨ x.1 = 3 ∨ x.1 = 4) ∧ 0 ≤ (i : Int) + x.2.1 ∧ (i : Int) + x.2.1 ≤ n) ∨ (¬ (x.1 = 2 ∨ x.1 = 3 ∨ x.1 = 4) ∧ 0 ≤ x.2.1 ∧ x.2.1 ≤ 20)
def TG (L : List INS) : Prop := ∀ (i : Nat) (x : INS), L[i]? = some x → tgI i L.length x
theorem TG_0 : TG [] := fun i x h => by cases h
theorem TG_1 {x : INS} (h : tgI 0 1 x) : TG [x] := fun i y hy => by
  cases i with
  | zero =>
    have e : x = y := Option.some.inj hy
    rw [← e]
    exact h
  | succ i => cases hy
theorem tgI_up {i n a c : Nat} {x : INS} (h : tgI i n x) : tgI (a + i) (a + n + c) x := by
  rcases h with ⟨z, h1, h2⟩ | ⟨z, h1, h2⟩
  · exact Or.inl ⟨z, by omega, by omega⟩
  · exact Or.inr ⟨z, h1, h2⟩
theorem TG_app {A B : List INS} (ha : TG A) (hb : TG B) : TG (A ++ B) := fun i x h => by
  rw [List.length_append]
  by_cases e : i < A.length
  · rw [List.getElem?_append_left e] at h
    have q := tgI_up (a := 0) (c := B.length) (ha i x h)
    rw [Nat.zero_add, Nat.zero_add] at q
    exact q
  · rw [List.getElem?_append_right (by omega)] at h
    have q := tgI_up (a := A.length) (c := 0) (hb _ x h)
    rw [Nat.add_zero, show A.length + (i - A.length) = i from by omega] at q
    exact q
theorem TG_flat : ∀ l : List (List INS), (∀ a, a ∈ l → TG a) → TG l.flatten
  | [], _ => TG_0
  | a :: l, h => by
    rw [List.flatten_cons]
    exact TG_app (h a List.mem_cons_self) (TG_flat l fun b hb => h b (List.mem_cons_of_mem _ hb))
/-- one ahead -/
theorem TG_cons {x : INS} {A : List INS} (hx : tgI 0 (A.length + 1) x) (ha : TG A) : TG (x :: A) := fun i y h => by
  rw [List.length_cons]
  cases i with
  | zero =>
    have e : x = y := Option.some.inj h
    rw [← e]
    exact hx
  | succ i =>
    rw [List.getElem?_cons_succ] at h
    have q := tgI_up (a := 1) (c := 0) (ha i y h)
    rw [Nat.add_zero, Nat.add_comm 1 i, Nat.add_comm 1 A.length] at q
    exact q
theorem TG_cdR : ∀ l : List (List INS), (∀ a, a ∈ l → TG a) → TG (cdR l)
  | [], _ => TG_0
  | [r], h => h r List.mem_cons_self
  | r :: s :: rs, h => by
    have ih := TG_cdR (s :: rs) fun a ha => h a (List.mem_cons_of_mem _ ha)
    have hr := h r List.mem_cons_self
    show TG ((ins 3 ((r.length : Int) + 2) :: r) ++ ins 2 (((cdR (s :: rs)).length : Int) + 1) :: cdR (s :: rs))
    generalize cdR (s :: rs) = B at ih ⊢
    rw [List.cons_append]
    refine TG_cons (Or.inl ⟨Or.inr (Or.inl rfl), ?_, ?_⟩) (TG_app hr (TG_cons (Or.inl ⟨Or.inl rfl, ?_, ?_⟩) ih))
    · show (0 : Int) ≤ ((0 : Nat) : Int) + ((r.length : Int) + 2)
      omega
    · show ((0 : Nat) : Int) + ((r.length : Int) + 2) ≤ _
      rw [List.length_append, List.length_cons]
      omega
    · show (0 : Int) ≤ ((0 : Nat) : Int) + ((B.length : Int) + 1)
      omega
    · show ((0 : Nat) : Int) + ((B.length : Int) + 1) ≤ _
      omega
theorem TG_more {fork lo hi : Int} {copies : Nat} {Y : List INS} (hf : fork = 3 ∨ fork = 4) (hh : hi ≠ -1) (hy : TG Y) : ∀ r i : Nat, i + r = copies → TG (moreL fork lo hi copies Y r i)
  | 0, i, _ => TG_0
  | r + 1, i, h => by
    have ih := TG_more (lo := lo) (copies := copies) hf hh hy r (i + 1) (by omega)
    unfold moreL
    rw [if_neg hh]
    by_cases z : (i : Int) < lo
    · rw [if_pos z, List.nil_append]
      exact TG_app hy ih
    · rw [if_neg z, List.append_assoc, List.singleton_append]
      have l := moreL_n (fork := fork) (lo := lo) (hi := hi) (copies := copies) (Y := Y) r (i + 1) (by omega)
      have e : ((copies : Int) - (i : Int)) * ((Y.length : Int) + 1) = ((r * (Y.length + 1) : Nat) : Int) + (Y.length : Int) + 1 := by
        rw [show (copies : Int) - (i : Int) = ((r + 1 : Nat) : Int) from by omega, show (Y.length : Int) + 1 = ((Y.length + 1 : Nat) : Int) from by omega, ← Int.natCast_mul, Nat.succ_mul]
        omega
      refine TG_cons (Or.inl ⟨Or.inr hf, ?_, ?_⟩) (TG_app hy ih)
      · rw [e]
        show (0 : Int) ≤ ((0 : Nat) : Int) + (((r * (Y.length + 1) : Nat) : Int) + (Y.length : Int) + 1)
        omega
      · rw [e, List.length_append, l]
        show ((0 : Nat) : Int) + (((r * (Y.length + 1) : Nat) : Int) + (Y.length : Int) + 1) ≤ _
        omega
theorem TG_end {fork : Int} {Y : List INS} (hf : fork = 3 ∨ fork = 4) (hy : TG Y) : TG (ins fork ((Y.length : Int) + 2) :: (Y ++ [ins 2 (-((Y.length : Int) + 1))])) := fun i x h => by
  have ln : (ins fork ((Y.length : Int) + 2) :: (Y ++ [ins 2 (-((Y.length : Int) + 1))])).length = Y.length + 2 := by
    rw [List.length_cons, List.length_append]
    rfl
  rw [ln]
  cases i with
  | zero =>
    have e : ins fork ((Y.length : Int) + 2) = x := Option.some.inj h
    rw [← e]
    refine Or.inl ⟨Or.inr hf, ?_, ?_⟩
    · show (0 : Int) ≤ ((0 : Nat) : Int) + ((Y.length : Int) + 2)
      omega
    · show ((0 : Nat) : Int) + ((Y.length : Int) + 2) ≤ _
      omega
  | succ i =>
    rw [List.getElem?_cons_succ] at h
    by_cases z : i < Y.length
    · rw [List.getElem?_append_left z] at h
      have q := tgI_up (a := 1) (c := 1) (hy i x h)
      rw [Nat.add_comm 1 i, show 1 + Y.length + 1 = Y.length + 2 from by omega] at q
      exact q
    · rw [List.getElem?_append_right (by omega)] at h
      have ei : i = Y.length := by
        by_cases y : i - Y.length = 0
        · omega
        · rw [List.getElem?_eq_none (by show 1 ≤ _; omega)] at h
          cases h
      rw [ei, Nat.sub_self] at h
      have e : ins 2 (-((Y.length : Int) + 1)) = x := Option.some.inj h
      rw [← e, ei]
      refine Or.inl ⟨Or.inl rfl, ?_, ?_⟩
      · show (0 : Int) ≤ ((Y.length + 1 : Nat) : Int) + (-((Y.length : Int) + 1))
        omega
      · show ((Y.length + 1 : Nat) : Int) + (-((Y.length : Int) + 1)) ≤ _
        omega
theorem TG_moreE {fork lo : Int} {copies : Nat} {Y : List INS} (hf : fork = 3 ∨ fork = 4) (hy : TG Y) : ∀ a i : Nat, (i : Int) + a = lo → TG (moreL fork lo (-1) copies Y (a + 1) i ++ tailL (-1) Y)
  | 0, i, h => by
    have e : moreL fork lo (-1) copies Y (0 + 1) i ++ tailL (-1) Y = ins fork ((Y.length : Int) + 2) :: (Y ++ [ins 2 (-((Y.length : Int) + 1))]) := by
      unfold moreL moreL tailL
      rw [if_neg (by omega), if_pos rfl, if_pos rfl]
      simp
    rw [e]
    exact TG_end hf hy
  | a + 1, i, h => by
    have ih := TG_moreE (lo := lo) (copies := copies) hf hy a (i + 1) (by omega)
    have e : moreL fork lo (-1) copies Y (a + 1 + 1) i ++ tailL (-1) Y = Y ++ (moreL fork lo (-1) copies Y (a + 1) (i + 1) ++ tailL (-1) Y) := by
      rw [moreL, if_pos (by omega), List.nil_append, List.append_assoc]
    rw [e]
    exact TG_app hy ih
theorem TG_rep {fork lo hi : Int} {Y : List INS} (hf : fork = 3 ∨ fork = 4) (hlo : 0 ≤ lo) (hy : TG Y) : TG (repL fork lo hi Y) := by
  unfold repL
  by_cases c0 : cpsN lo hi = 0
  · rw [if_pos c0]
    exact TG_0
  · rw [if_neg c0]
    by_cases z : hi = -1
    · subst z
      have ec : cpsN lo (-1) = lo.toNat + 1 := by
        unfold cpsN
        rw [if_pos rfl]
        omega
      have q := TG_moreE (fork := fork) (lo := lo) (copies := cpsN lo (-1)) hf hy lo.toNat 0 (by omega)
      rw [← ec] at q
      exact q
    · have et : tailL hi Y = [] := if_neg z
      rw [et, List.append_nil]
      exact TG_more hf z hy _ 0 (by omega)
/-- all code keeps within -/
theorem TG_all (hF : FINX k N M φ ψ own up S T) (hC : CDQ k N φ S T CA CI) (hp : ∀ m, m < N → (tK T m < 7 ∨ tK T m = 8 ∨ tK T m = 9 ∨ tK T m = 18) ∧ tR T m ≠ 2) : ∀ n m, m < N → N ≤ m + n → TG (CA m) ∧ TG (CI m) := fun n => by
  have h := TREE_of hF
  induction n with
  | zero => intro m h1 h2; omega
  | succ n ih =>
    intro m hm hn
    obtain ⟨c1, c2, c3, c4, c5, c6, c7, c8⟩ := hC m hm
    obtain ⟨kr, kk⟩ := FINX_K hF hm
    obtain ⟨p1, p2⟩ := hp m hm
    have kids : ∀ a, a ∈ (lstC (tX T) 320 (tC T m)).map CI → TG a := fun a ha => by
      obtain ⟨t, t1, t2⟩ := List.mem_map.mp ha
      have kt := lst_mb (Kid_X h) 320 0 _ (Kid_C h hm) t t1
      have lt := UP_lt hF kt.1 kt.2.1 kt.2.2.1
      rw [← t2]
      exact (ih t kt.1 (by omega)).2
    have atom : TG (CA m) := by
      by_cases k0 : tK T m = 0
      · rw [c1 k0]
        exact TG_1 (Or.inr ⟨by show ¬ ((0 : Int) = 2 ∨ (0 : Int) = 3 ∨ (0 : Int) = 4); omega, by show (0 : Int) ≤ 0; omega, by show (0 : Int) ≤ 20; omega⟩)
      · by_cases k7 : tK T m < 7
        · rw [c2 (by omega)]
          have ki := (kcl_i (c := tK T m) (f := T.1 629 (3840 + m)) kr).2.1 (by omega)
          have e : 1 ≤ S.1 (k + 1) (φ m) ∧ S.1 (k + 1) (φ m) ≤ 6 := by
            rcases kk with ⟨_, y, _⟩ | ⟨_, y⟩
            · omega
            · rw [y]
              exact ki
          exact TG_1 (Or.inr ⟨by show ¬ ((1 : Int) = 2 ∨ (1 : Int) = 3 ∨ (1 : Int) = 4); omega, by show (0 : Int) ≤ S.1 (k + 1) (φ m); omega, by show S.1 (k + 1) (φ m) ≤ 20; omega⟩)
        · rcases p1 with y | y | y | y
          · omega
          · rw [c4 y]
            have nv := (hF.1.2.2.2.1.1 m hm).1.2.2.2.1 (Or.inl y)
            refine TG_app (TG_cons (Or.inr ⟨by show ¬ ((5 : Int) = 2 ∨ (5 : Int) = 3 ∨ (5 : Int) = 4); omega, ?_, ?_⟩) (TG_cdR _ kids)) (TG_1 (Or.inr ⟨by show ¬ ((5 : Int) = 2 ∨ (5 : Int) = 3 ∨ (5 : Int) = 4); omega, ?_, ?_⟩))
            · show (0 : Int) ≤ 2 * T.1 628 (3840 + m)
              omega
            · show 2 * T.1 628 (3840 + m) ≤ 20
              omega
            · show (0 : Int) ≤ 2 * T.1 628 (3840 + m) + 1
              omega
            · show 2 * T.1 628 (3840 + m) + 1 ≤ 20
              omega
          · rw [c5 y]
            exact TG_cdR _ kids
          · rw [c3 y]
            exact TG_flat _ kids
    refine ⟨atom, ?_⟩
    by_cases r1 : tR T m = -1
    · rw [c6 r1]
      exact atom
    · obtain ⟨rl, rh⟩ := FINX_r hF hm r1
      rcases h.2.2.2.2.2.2.2.2 m hm with ⟨z, _⟩ | ⟨⟨z | z, _⟩, _⟩ | ⟨⟨z, _⟩, _⟩
      · exact absurd z r1
      · rw [c7 z]
        exact TG_rep (Or.inl rfl) rl.1 atom
      · rw [c8 z]
        exact TG_rep (Or.inr rfl) rl.1 atom
      · exact absurd z p2
end PROG12
