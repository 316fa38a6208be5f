/-! CALLS as single steps; the first arm -/
section EVPI
variable {X : ev_X} {lv : List (Nat × Value)} {h h' : List ev_E} {n d n' dc ds : Nat} {M : ev_M} {pc : Nat} {st as rest : List Value}
theorem ev_p_virt {x mi na : Nat} {v : Value} (hi : M.1 pc = some (.invokevirtual x, 3)) (hk : ev_Lk M.2.2.1 x = some (0, mi, na)) (hP : (ev_P mi).isSome = true) (hna : Nat.beq na (ev_Mof mi).2.2.2.2.2.1 = true) (hpop : ev_pop (na + 1) [] st = some (as, rest)) (hs : Nat.ble (ev_sum rest) 8 = true) (hr : ev_recv h (ev_Mof mi).2.2.1 as = true) (hc : ev_calld d mi as h n = some (.inl (some v), h', n', dc, ds)) : ev_stepM M d X pc lv st h n = some (pc + 3, lv, v :: rest, h', n', dc, ds) := by
  refine ev_one_virtual hi ?_
  rw [hk, ev_inv_obj (Y := ev_Mof mi) rfl rfl rfl (ev_P_of hP) (by rw [hna]; rfl) rfl hpop (by rw [hs, hr]; rfl)]
  show ev_back M pc lv rest (ev_ansOf true (ev_calld d mi as h n)) = _
  rw [hc]
  rfl
theorem ev_p_virt0 {x mi na : Nat} (hi : M.1 pc = some (.invokevirtual x, 3)) (hk : ev_Lk M.2.2.1 x = some (0, mi, na)) (hP : (ev_P mi).isSome = true) (hna : Nat.beq na (ev_Mof mi).2.2.2.2.2.1 = true) (hpop : ev_pop (na + 1) [] st = some (as, rest)) (hs : Nat.ble (ev_sum rest) 8 = true) (hr : ev_recv h (ev_Mof mi).2.2.1 as = true) (hc : ev_calld d mi as h n = some (.inl none, h', n', dc, ds)) : ev_stepM M d X pc lv st h n = some (pc + 3, lv, rest, h', n', dc, ds) := by
  refine ev_one_virtual hi ?_
  rw [hk, ev_inv_obj (Y := ev_Mof mi) rfl rfl rfl (ev_P_of hP) (by rw [hna]; rfl) rfl hpop (by rw [hs, hr]; rfl)]
  show ev_back M pc lv rest (ev_ansOf true (ev_calld d mi as h n)) = _
  rw [hc]
  rfl
theorem ev_recv_of {k ci : Nat} {fs t : List Value} (hk : h[k]? = some (.inr (ci, fs))) : ev_recv h ci (.ref k :: t) = true := by
  show ev_isOf ci h[k]? = true
  rw [hk]
  exact Nat.beq_refl ci
theorem ev_p_icmp {q : ClassFile.Cond} {o : Int} {x y : Int32} {t : Nat} (hi : M.1 pc = some (.if_icmp q o, 3)) (ht : ev_br (ev_cmp q x y) pc o = some t) : ev_stepM M d X pc lv (.int y :: .int x :: st) h n = some (t, lv, st, h, n, 0, 0) := ev_one_pure hi (by
  show ev_to lv st (ev_br (ev_cmp q x y) pc o) = _
  rw [ht]
  rfl)
end EVPI
section EVC1
variable {h : List ev_E} {n d : Nat}
/-- clear: the reference's -/
theorem ev_m_clear {G : List Value} {c : Int32} (h0 : h[621]? = some (.inr (13, G))) (hG : G[1]? = some (.int c)) : ev_calld (d + 1) 231 [.ref 621] h n = some (.inl (some (.int c)), (h.set 621 (.inr (13, G.set 0 (.int 0)))).set 621 (.inr (13, (G.set 0 (.int 0)).set 1 (.int 0))), n, 0, 0) := by
  have hl : 1 < G.length := (List.getElem?_eq_some_iff.mp hG).1
  have hh : 621 < h.length := (List.getElem?_eq_some_iff.mp h0).1
  have h1 : (h.set 621 (.inr (13, G.set 0 (.int 0))))[621]? = some (.inr (13, G.set 0 (.int 0))) := List.getElem?_set_self hh
  have hG1 : (G.set 0 (.int 0))[1]? = some (.int c) := by rw [List.getElem?_set_ne (by decide)]; exact hG
  have r : ev_stepn (ev_stepM (ev_Mof 231) d none) (1 + (1 + (1 + (1 + (1 + (1 + (1 + (1 + (1 + 1))))))))) (0, lv_args 0 [.ref 621], [], h, n, 0, 0) = some (16, ev_st1 [(0, .ref 621)] 1 (.int c), [.int c], (h.set 621 (.inr (13, G.set 0 (.int 0)))).set 621 (.inr (13, (G.set 0 (.int 0)).set 1 (.int 0))), n, 0, 0) :=
    ev_stepn_add (ev_stepn_1 (ev_p_aload_r (pc := 0) (k := 0) (a := 621) (by decide +kernel) rfl))
    (ev_stepn_add (ev_stepn_1 (ev_p_iconst (pc := 1) (k := 0) (by decide +kernel)))
    (ev_stepn_add (ev_stepn_1 (ev_p_putf (pc := 2) (x := 321) (ci := 13) (f := 0) (by decide +kernel) (by decide +kernel) h0 rfl (by omega)))
    (ev_stepn_add (ev_stepn_1 (ev_p_aload_r (pc := 5) (k := 0) (a := 621) (by decide +kernel) rfl))
    (ev_stepn_add (ev_stepn_1 (ev_p_getf (pc := 6) (x := 346) (ci := 13) (f := 1) (fin := 0) (by decide +kernel) (by decide +kernel) h1 hG1))
    (ev_stepn_add (ev_stepn_1 (ev_p_istore_n (pc := 9) (k := 1) (by decide +kernel) (by decide +kernel)))
    (ev_stepn_add (ev_stepn_1 (ev_p_aload_r (pc := 10) (k := 0) (a := 621) (by decide +kernel) rfl))
    (ev_stepn_add (ev_stepn_1 (ev_p_iconst (pc := 11) (k := 0) (by decide +kernel)))
    (ev_stepn_add (ev_stepn_1 (ev_p_putf (pc := 12) (x := 346) (ci := 13) (f := 1) (by decide +kernel) (by decide +kernel) h1 rfl (by rw [List.length_set]; exact hl)))
    (ev_stepn_1 (ev_p_iload_n (pc := 15) (k := 1) (by decide +kernel) rfl))))))))))
  exact ev_call_int (by decide +kernel) (by decide +kernel) r (by decide +kernel) (ty := .int) (by decide +kernel) rfl (by decide)
variable {L : Nat} {xs : Nat → Int32} {lv : List (Nat × Value)} {nc ns : Nat}
/-- the arm of clear: whatever the cells are, where the two counts agree -/
theorem ev_arm_clear {F T G : List Value} {c : Int32} (hK : ev_lvK lv) (h0 : h[0]? = some (.inr (12, F))) (hF : F[0]? = some (.ref 1)) (h1 : h[1]? = some (.inr (10, T))) (hT : T[1]? = some (.int c)) (h2 : h[621]? = some (.inr (13, G))) (hG : G[1]? = some (.int c)) :
    ev_stepn (ev_stepM ev_Mlaw 12 (some (L, xs))) (1 + (1 + (1 + (1 + 1)))) (244, lv, [], h, n, nc, ns) = some (2272, lv, [], ((h.set 1 (.inr (10, T.set 1 (.int 0)))).set 621 (.inr (13, G.set 0 (.int 0)))).set 621 (.inr (13, (G.set 0 (.int 0)).set 1 (.int 0))), n, nc, ns) := by
  have h3 : (h.set 1 (.inr (10, T.set 1 (.int 0))))[621]? = some (.inr (13, G)) := by rw [List.getElem?_set_ne (by decide)]; exact h2
  exact ev_stepn_add (ev_stepn_1 (ev_p_aload_r (pc := 244) (k := 1) (a := 0) (by decide +kernel) hK.2.1))
    (ev_stepn_add (ev_stepn_1 (ev_p_virt (pc := 245) (x := 134) (mi := 167) (na := 0) (by decide +kernel) (by decide +kernel) (by decide +kernel) (by decide +kernel) rfl rfl (ev_recv_of h0) (ev_c_clear (d := 11) h0 hF h1 hT)))
    (ev_stepn_add (ev_stepn_1 (ev_p_aload_r (pc := 248) (k := 2) (a := 621) (by decide +kernel) hK.2.2.1))
    (ev_stepn_add (ev_stepn_1 (ev_p_virt (pc := 249) (x := 137) (mi := 231) (na := 0) (by decide +kernel) (by decide +kernel) (by decide +kernel) (by decide +kernel) rfl rfl (ev_recv_of h3) (ev_m_clear (d := 11) h3 hG)))
    (ev_stepn_1 (ev_p_icmp (pc := 252) (q := .eq) (o := 2020) (by decide +kernel) (by show ev_br (decide (c = c)) 252 2020 = _; rw [decide_eq_true rfl]; rfl))))))
end EVC1
