/-! CELLS: the theorem of one step -/
theorem ev_rd_cons (d : Value) (l : List (Nat × Value)) (i j : Nat) (v : Value) : ev_rd d ((i, v) :: l) j = if j = i then v else ev_rd d l j := by
  show (match Nat.beq i j with | true => v | false => ev_rd d l j) = _
  cases e : Nat.beq i j with
  | true =>
    have := Nat.eq_of_beq_eq_true e
    rw [if_pos this.symm]
  | false =>
    have h : ¬ j = i := fun q => by rw [q, Nat.beq_refl] at e; cases e
    rw [if_neg h]
theorem ev_updI (l : List (Nat × Value)) (i : Nat) (x : Int32) (v : Value) (hv : ev_int v = x) : upd (fun j => ev_int (ev_rd (.int 0) l j)) i x = fun j => ev_int (ev_rd (.int 0) ((i, v) :: l) j) := by
  funext j
  rw [ev_rd_cons]
  unfold upd
  split
  · exact hv.symm
  · rfl
theorem ev_updL (l : List (Nat × Value)) (i : Nat) (x : Int64) : vp_updL (fun j => ev_long (ev_rd (.long 0) l j)) i x = fun j => ev_long (ev_rd (.long 0) ((i, .long x) :: l) j) := by
  funext j
  rw [ev_rd_cons]
  unfold vp_updL
  split <;> rfl
theorem ev_updQ {ad : List Nat} {l : List (Nat × Value)} {g : Nat → Option Nat} {i k a : Nat} (hg : ∀ j, ev_q ad (ev_rd .null l j) (g j)) (ha : ad[k]? = some a) : ∀ j, ev_q ad (ev_rd .null ((i, .ref k) :: l) j) (va_up g i (some a) j) := by
  intro j
  rw [ev_rd_cons]
  unfold va_up
  split
  · exact ⟨a, ha, rfl⟩
  · exact hg j
theorem ev_q_r {ad : List Nat} {b : Nat} {x : Value} {r : Option Nat} (h : ev_q ad x r) : ev_r ad b (ev_ref x) (va_rf r) := by
  cases x with
  | ref k =>
    obtain ⟨a, h1, rfl⟩ := h
    exact ⟨a, h1, rfl⟩
  | _ => cases h; rfl
theorem ev_dfl (ad : List Nat) (b : Nat) (g : Nat → FieldType) : ∀ L : List Nat, ev_rs ad b (L.map fun k => defaultValue (g k)) (L.map fun k => defaultValue (g k))
  | [] => trivial
  | k :: L => by
    refine ⟨?_, ev_dfl ad b g L⟩
    show ev_r ad b (defaultValue (g k)) (defaultValue (g k))
    cases g k <;> rfl
section EVR
variable {p : Program} {l : Launch} {e : Env} {R : Room} {s : State} {m : MethodId} {args : Array Value} {below : List Frame} {meth : Method} {c : Code} {H : Heap} {locs : List Loc} {cells slots : Nat} {Q : State → Prop}
variable {cc : ByteArray} {pc : Nat} {ls : Array Slot} {rest : List Value} {D : va_G} {cl : List vw_C} {A : Nat → Prop} {a : Nat} {ws : va_W} {H0 : Heap}
theorem ev_aald (hexec : p.tables.exec = Jvm.exec) (hb : c.code = cc) (hP : va_P D cl ws H) (q0 : Nat) {cA : ClassId} {ty : FieldType} {n : Nat} {f : Nat → Option Nat} (ha : ws[q0]? = some (a, .inl (cA, n, .inr (.inr (.inr (.inr f)))))) (ht : ev_Ar s cA ty) (href : ty.isReference = true) {i : Int32} (hin : vp_in i n) (hdg : decode cc pc = .ok (.aaload, 1))
    (kk : W p l e R s m args below meth c H locs cells slots Q (F0 m (pc + 1) ls (va_rf (f i.toNatClampNeg) :: rest))) : W p l e R s m args below meth c H locs cells slots Q (F0 m pc ls (.int i :: .ref a :: rest)) := by
  have hlt : i.toNatClampNeg < n := Nat.not_le.mp fun q => hin (Or.inr q)
  exact W.aald (v := va_rf (f i.toNatClampNeg)) (ty := ty) hexec hb (hP q0 _ ha) (ht.1 n (fun j => va_rf (f j))) href (fun q => by cases q) (by show ¬ (i < 0 ∨ (arrV _ _ _).slots.size ≤ _); rw [arrV_size]; exact hin) (by show (arrV _ _ _).slots[_]? = _; rw [arrV_read _ _ hlt]) rfl rfl hdg kk
/-- an array stored in an array of arrays -/
theorem ev_aastA (hexec : p.tables.exec = Jvm.exec) (hb : c.code = cc) (hP : va_P D cl ws H) (hD : va_D A ws) (hS : va_S A H0 H locs) (q0 qk : Nat) {cA cV : ClassId} {t : FieldType} {n v : Nat} {x : vp_A} {f : Nat → Option Nat} (ha : ws[q0]? = some (a, .inl (cA, n, .inr (.inr (.inr (.inr f)))))) (ht : ev_Ar s cA (.array t)) (hv : ws[qk]? = some (v, .inl (cV, x))) (hVt : ev_Ar s cV t) {i : Int32} (hin : vp_in i n) (hdg : decode cc pc = .ok (.aastore, 1))
    (kk : ∀ (H1 : Heap) (locs1 : List Loc), va_P D cl (ws.set q0 (a, .inl (cA, n, .inr (.inr (.inr (.inr (va_up f i.toNatClampNeg (some v)))))))) H1 → va_D A (ws.set q0 (a, .inl (cA, n, .inr (.inr (.inr (.inr (va_up f i.toNatClampNeg (some v)))))))) → va_S A H0 H1 locs1 → W p l e R s m args below meth c H1 locs1 cells slots Q (F0 m (pc + 1) ls rest)) : W p l e R s m args below meth c H locs cells slots Q (F0 m pc ls (.ref v :: .int i :: .ref a :: rest)) := by
  have hlt : i.toNatClampNeg < n := Nat.not_le.mp fun q => hin (Or.inr q)
  have h0 : ¬ i < 0 := fun q => hin (Or.inl q)
  have g1 : H[v]? = some (vp_cell cV x) := hP qk _ hv
  obtain ⟨kA, comp, k1, k2, k3⟩ := ht.2.2 t rfl
  have hcv : (vp_cell cV x).cls = cV := by
    obtain ⟨N, y⟩ := x
    rcases y with y | y | y | y | y <;> rfl
  have hvm : (vp_cell cV x).vm = .none := by
    obtain ⟨N, y⟩ := x
    rcases y with y | y | y | y | y <;> rfl
  have hcomp : comp = cV := by
    have h9 : s.vm.findClass ("[" ++ t.toString) = some cV := by
      have h8 := hVt.2.1
      cases t with
      | object C => exact h8.choose_spec.choose_spec.2.2.2
      | _ => exact h8
    exact Option.some.inj (k3.symm.trans h9)
  subst hcomp
  obtain ⟨kC, hkC, -⟩ := Vm.findClass_spec k3
  refine W.aast hexec hb (hP q0 _ ha) (fun q h => by cases h) (fun h => by cases h) k1 k2 rfl hkC ⟨h0, by show _ < (arrV _ _ _).slots.size; rw [arrV_size]; exact hlt⟩ g1 (fun q h => by rw [hvm] at h; cases h) (by rw [hcv]; exact hkC) (by rw [hcv]; exact va_asg _ _) rfl rfl hdg fun H1 e z oq => ?_
  refine kk H1 _ (hP.set hD ha ?_ oq) (hD.set ha) (hS.put z oq (hD.2 q0 _ ha))
  show H1[a]? = some (vp_cell _ _)
  rw [e]
  rw [vp_cell_q, vp_cell_q, arrV_store]
  congr 2
  funext q
  by_cases hq : q = i.toNatClampNeg
  · subst hq
    simp [updV, va_up, va_rf]
  · simp [updV, va_up, hq]
/-- an array of arrays, its places null -/
theorem ev_newqA (hexec : p.tables.exec = Jvm.exec) (hb : c.code = cc) {own : String} {t : FieldType} {index : Nat} (hown : s.vm.findClass own = some m.cls) (hclink : (Cond.classLink own index (FieldType.array t).toString).before args s = true) (hover : (Cond.arrayOver (.array t)).before args s = true) (hP : va_P D cl ws H) (hD : va_D A ws) (hS : va_S A H0 H locs) (hA : ∀ q, H0.size ≤ q → A q)
    {n : Int32} (hn : ¬ n < 0) (hbytes : n.toNatClampNeg * 4 ≤ 536870912) (hcells : cells + 1 ≤ R.cells) (hslots : slots + n.toNatClampNeg ≤ R.slots) (hdg : decode cc pc = .ok (.anewarray index, 3))
    (kk : ∀ (q : Nat) (cA : ClassId) (H1 : Heap), ev_Ar s cA (.array t) → va_P D cl (ws ++ [(q, .inl (cA, n.toNatClampNeg, .inr (.inr (.inr (.inr (fun _ => none))))))]) H1 → va_D A (ws ++ [(q, .inl (cA, n.toNatClampNeg, .inr (.inr (.inr (.inr (fun _ => none))))))]) → va_S A H0 H1 locs →
      W p l e R s m args below meth c H1 locs (cells + 1) (slots + n.toNatClampNeg) Q (F0 m (pc + 3) ls (.ref q :: rest))) : W p l e R s m args below meth c H locs cells slots Q (F0 m pc ls (.int n :: rest)) := by
  refine W.anewA hexec hb hown hclink hover rfl hdg rfl hn hbytes hcells hslots fun cA kA comp f1 f2 f3 f4 => ?_
  generalize hH1 : H.push ({ cls := cA, slots := Array.replicate n.toNatClampNeg .null, vm := .none } : Cell) = H1
  have z1 : H1.size = H.size + 1 := by rw [← hH1, Array.size_push]
  have e1 : H1[H.size]? = some (arrV cA n.toNatClampNeg (fun _ => .null)) := by rw [← hH1, Array.getElem?_push_size, ← arrV_new]
  have o1 : ∀ q : Nat, q < H.size → H1[q]? = H[q]? := fun q hq => by rw [← hH1, Array.getElem?_push, if_neg (Nat.ne_of_lt hq)]
  have hAr : ArrOfT s cA (.array t) := fun N z => ⟨(fun k h => by cases h), kA, f2, comp, f3⟩
  have hk : ∀ (k : Nat) (x : Nat × va_E), ws[k]? = some x → H1[x.1]? = H[x.1]? := fun k x hx => o1 x.1 ((hP k x hx).lt)
  refine kk H.size cA H1 ⟨hAr, f1, fun t' e => by cases e; exact ⟨kA, comp, f2, f3, f4⟩⟩ ((hP.kept hk).app (fun k x hx => ?_)) (hD.push hP rfl (hA _ hS.1)) ⟨Nat.le_trans hS.1 (by omega), fun x h1 h2 => (o1 x (Nat.lt_of_lt_of_le h1 hS.1)).trans (hS.2.1 x h1 h2), hS.2.2⟩
  have hz : k < 1 := (List.getElem?_eq_some_iff.mp hx).1
  rw [show k = 0 by omega] at hx
  cases hx
  show H1[H.size]? = some (vp_cell _ _)
  rw [vp_cell_q]
  exact e1
theorem ev_outer (c : ClassId) (N h0 : Nat) : ∀ i : Nat, Jvm.Free.Multi.outerC c N h0 i = arrV c N (fun j => va_rf (if j < i then some (h0 + 1 + j) else none))
  | 0 => by
    show ({ cls := c, slots := Array.replicate N .null, vm := .none } : Cell) = _
    rw [arrV_new]
    exact congrArg (arrV c N) (funext fun j => by simp [va_rf])
  | i + 1 => by
    show (Jvm.Free.Multi.outerC c N h0 i).setSlot i (.ref (h0 + 1 + i)) = _
    rw [ev_outer c N h0 i, arrV_store]
    refine congrArg (arrV c N) (funext fun j => ?_)
    by_cases e : j = i
    · rw [e]; simp [updV, va_rf]
    · by_cases h : j < i
      · simp [updV, e, h, Nat.lt_succ_of_lt h]
      · simp [updV, e, h, show ¬ j < i + 1 by omega]
def ev_mcells (cA cy : ClassId) (q N K : Nat) : va_W := (q, .inl (cA, N, .inr (.inr (.inr (.inr (fun i => if i < N then some (q + 1 + i) else none)))))) :: (List.range N).map (fun i => (q + 1 + i, .inl (cy, (K, .inl fun _ => 0))))
theorem ev_mcells_at {cA cy : ClassId} {q N K k : Nat} {x : Nat × va_E} (h : (ev_mcells cA cy q N K)[k]? = some x) : (k = 0 ∧ x = (q, .inl (cA, N, .inr (.inr (.inr (.inr (fun i => if i < N then some (q + 1 + i) else none))))))) ∨ ∃ i, i < N ∧ k = i + 1 ∧ x = (q + 1 + i, .inl (cy, (K, .inl fun _ => 0))) := by
  cases k with
  | zero => cases h; exact Or.inl ⟨rfl, rfl⟩
  | succ i =>
    have h : ((List.range N).map (fun i => ((q + 1 + i, .inl (cy, (K, .inl fun _ => 0))) : Nat × va_E)))[i]? = some x := h
    have hl : i < N := by
      have h9 := (List.getElem?_eq_some_iff.mp h).1
      rw [List.length_map, List.length_range] at h9
      exact h9
    rw [List.getElem?_map, List.getElem?_range hl] at h
    cases h
    exact Or.inr ⟨i, hl, rfl, rfl⟩
/-- rows of ints -/
theorem ev_multi (hexec : p.tables.exec = Jvm.exec) (hb : c.code = cc) {own : String} {index : Nat} (hown : s.vm.findClass own = some m.cls) (hclink : (Cond.classLink own index ("[" ++ (FieldType.array .int).toString)).before args s = true) (hover : (Cond.arrayOver (.array .int)).before args s = true) (harr : (Cond.arrayClass .int).before args s = true) (hP : va_P D cl ws H) (hD : va_D A ws) (hS : va_S A H0 H locs) (hA : ∀ q, H0.size ≤ q → A q)
    {n k : Int32} (hn : ¬ n < 0) (hk : ¬ k < 0) (hb1 : n.toNatClampNeg * 4 ≤ 536870912) (hb2 : k.toNatClampNeg * 4 ≤ 536870912) (hcells : cells + (1 + n.toNatClampNeg) ≤ R.cells) (hslots : slots + (n.toNatClampNeg + n.toNatClampNeg * k.toNatClampNeg) ≤ R.slots) (hdg : decode cc pc = .ok (.multianewarray index 2, 4))
    (kk : ∀ (q : Nat) (cA cy : ClassId) (H1 : Heap), ev_Ar s cA (.array .int) → ev_Ar s cy .int → va_P D cl (ws ++ ev_mcells cA cy q n.toNatClampNeg k.toNatClampNeg) H1 → va_D A (ws ++ ev_mcells cA cy q n.toNatClampNeg k.toNatClampNeg) → va_S A H0 H1 locs →
      W p l e R s m args below meth c H1 locs (cells + (1 + n.toNatClampNeg)) (slots + (n.toNatClampNeg + n.toNatClampNeg * k.toNatClampNeg)) Q (F0 m (pc + 4) ls (.ref q :: rest))) : W p l e R s m args below meth c H locs cells slots Q (F0 m pc ls (.int k :: .int n :: rest)) := by
  intro T hT Xs
  obtain ⟨vm₁, cA, cy, -, fA, fC, hO, hI, X', step⟩ := Xs.multianewarray2F hexec hown hclink hover harr (g := F0 m pc ls (.int k :: .int n :: rest)) rfl (by rw [hb]; exact hdg) rfl hn hk hb1 hb2 (by omega) rfl rfl hcells hslots
  generalize hF : Jvm.Free.Multi.fill (T.setVm vm₁) cA cy n.toNatClampNeg k.toNatClampNeg (defaultValue .int) n.toNatClampNeg = F at X' step
  have hTh : (T.setVm vm₁).heap = H := hT
  obtain ⟨f1, f2, -, -⟩ := Jvm.Free.Multi.fill_facts (T.setVm vm₁) cA cy n.toNatClampNeg k.toNatClampNeg (defaultValue .int) n.toNatClampNeg
  rw [hF, hTh] at f1 f2
  have hold : ∀ x : Nat, x < H.size → F.heap[x]? = H[x]? := fun x hx => by
    have := Jvm.Free.Multi.fill_old (T.setVm vm₁) cA cy n.toNatClampNeg k.toNatClampNeg (defaultValue .int) (a := x) (by rw [hTh]; exact hx) n.toNatClampNeg
    rw [hF, hTh] at this
    exact this
  have hrow : ∀ j : Nat, j < n.toNatClampNeg → F.heap[H.size + 1 + j]? = some (vp_cell cy (k.toNatClampNeg, .inl fun _ => 0)) := fun j hj => by
    have := Jvm.Free.Multi.fill_inner (T.setVm vm₁) cA cy n.toNatClampNeg k.toNatClampNeg (defaultValue .int) n.toNatClampNeg j hj
    rw [hF, hTh] at this
    rw [this]
    exact congrArg some (arrV_new cy k.toNatClampNeg (.int 0))
  rw [ev_outer] at f2
  have hAr1 : ArrOfT s cA (.array .int) := fun N9 z9 => by
    obtain ⟨-, k9, hk9, cm9, hkk9⟩ := (hO 0 0 0).1
    exact ⟨(fun q hq => by cases hq), k9, hk9, cm9, hkk9⟩
  have hAr2 : ArrOfT s cy .int := fun N9 z9 => by
    obtain ⟨-, k9, hk9, cm9, hkk9⟩ := (hI 0 .null).1
    exact ⟨(fun q hq => by cases hq), k9, hk9, cm9, hkk9⟩
  obtain ⟨comp, c9, k9, o1, o2, o3, o4, o5⟩ := arrayOverA_spec (t := .int) hover
  have ec : c9 = cA := Option.some.inj (o5.symm.trans fA)
  have hkp : ∀ (k9 : Nat) (x : Nat × va_E), ws[k9]? = some x → F.heap[x.1]? = H[x.1]? := fun k9 x hx => hold x.1 ((hP k9 x hx).lt)
  have hlo : ∀ (k9 : Nat) (x : Nat × va_E), ws[k9]? = some x → x.1 < H.size := fun k9 x hx => (hP k9 x hx).lt
  have hP2 : va_P D cl (ws ++ ev_mcells cA cy H.size n.toNatClampNeg k.toNatClampNeg) F.heap := (hP.kept hkp).app (fun j x hx => by
    rcases ev_mcells_at hx with ⟨-, rfl⟩ | ⟨i, hi, -, rfl⟩
    · show F.heap[H.size]? = some (vp_cell _ _)
      rw [vp_cell_q]
      exact f2
    · exact hrow i hi)
  have hD2 : va_D A (ws ++ ev_mcells cA cy H.size n.toNatClampNeg k.toNatClampNeg) := hD.app ⟨fun i j x y hi hj hxy => by
    rcases ev_mcells_at hi with ⟨rfl, rfl⟩ | ⟨i1, -, rfl, rfl⟩ <;> rcases ev_mcells_at hj with ⟨rfl, rfl⟩ | ⟨j1, -, rfl, rfl⟩ <;> dsimp only at hxy <;> omega, fun j x hx => by
    rcases ev_mcells_at hx with ⟨-, rfl⟩ | ⟨i1, -, -, rfl⟩
    · exact hA _ hS.1
    · exact hA _ (by have := hS.1; dsimp only; omega)⟩ (fun i j x y hi hj => by
    have := hlo _ _ hi
    rcases ev_mcells_at hj with ⟨rfl, rfl⟩ | ⟨j1, -, rfl, rfl⟩ <;> dsimp only <;> omega)
  obtain ⟨t, a1, b1⟩ := kk H.size cA cy F.heap ⟨hAr1, fA, fun t e => by cases e; exact ⟨k9, comp, by rw [← ec]; exact o3, o4, o1⟩⟩ ⟨hAr2, fC, fun t e => by cases e⟩ hP2 hD2 ⟨by rw [f1]; have := hS.1; omega, fun x h1 h2 => (hold x (Nat.lt_of_lt_of_le h1 hS.1)).trans (hS.2.1 x h1 h2), hS.2.2⟩ F rfl (by rw [← Nat.add_assoc, ← Nat.add_assoc]; exact X')
  refine ⟨t, step t ?_, b1⟩
  have e : T.heap.size = H.size := by rw [hT]
  rw [e]
  exact a1
end EVR
