/-! PROGRAMS: turns of the reference's writing, as steps upon its stack and its list -/
section PROG17
variable {Q p d w g a : Nat} {c : Int} {T U V W : ev_St} {ts L A B : List T3}
theorem len1 {x : T3} : (ts ++ [x]).length = ts.length + 1 := by
  rw [List.length_append]
  rfl
theorem fT {x i : Nat} (hf : FWr T U) (h : MV p d w ts L U V) (h1 : 625 ≤ x) (h2 : x ≤ 632) : V.1 x i = T.1 x i := (h.2.2.2.2.2.1 x i (by omega) (by omega) (by omega)).trans (hf.1 x i (by omega) (by omega) (by omega))
def GOn (Q p n : Nat) (V W : ev_St) : Prop := ∀ q, jl_313_23 Q (p : Int) (q + n) (320 * (p : Int)) V = jl_313_23 Q (p : Int) q (320 * (p : Int)) W
theorem GO_r : GOn Q p 0 V V := fun _ => rfl
theorem GO_t {a b : Nat} (h : GOn Q p a U V) (h2 : GOn Q p b V W) : GOn Q p (a + b) U W := fun q => by
  rw [show q + (a + b) = (q + b) + a from by omega, h, h2]
theorem GO_1 {o : Int} (h : MV p d w (ts ++ [(o, (g : Int), c)]) L U V) (hd : d + ts.length < 1200) (ho : o ≠ 11) (he : ∀ JJ : Int → Int → ev_St → Option (Unit × ev_St), G313 Q (p : Int) (320 * (p : Int)) o (g : Int) c (ev_pI V 621 59 ((d + ts.length : Nat) : Int)) JJ = JJ o (g : Int) W) : GOn Q p 1 V W := fun q => by
  obtain ⟨a1, _, a3⟩ := MV_one h
  show jb_313_23 Q _ _ _ V = _
  rw [pop313 a1 hd a3, he, tl_o ho]
theorem m_0a (hf : FWr T U) (h : MV p d w (ts ++ [(0, (g : Int), c)]) (L) U V) (hd : d + ts.length + 4 < 1200) (hp : p < 12) (hg : g < 4160) (hw : w + (L).length < 210) (z : T.1 630 g = -1) : ∃ V2, GOn Q p 1 V V2 ∧ MV p d w (ts ++ [(1, (g : Int), 0)]) (L) U V2 := by
  have hP := MV_pop h
  have e1 : (ev_pI V 621 59 ((d + ts.length : Nat) : Int)).1 621 59 = (((d + ts.length) : Nat) : Int) := rd_eq
  have e2 : (ev_pI V 621 59 ((d + ts.length : Nat) : Int)).1 621 54 = ((w + (L).length : Nat) : Int) := hP.1.2
  have fP : ∀ x i, 625 ≤ x → x ≤ 632 → (ev_pI V 621 59 ((d + ts.length : Nat) : Int)).1 x i = T.1 x i := fun x i a b => fT hf hP a b
  exact ⟨(psh (d + ts.length) (1, (g : Int), 0) (ev_pI V 621 59 ((d + ts.length : Nat) : Int))), GO_1 h (by omega) (by decide) (fun JJ => g_0a rfl hg ((fP 630 g (by decide) (by decide)).trans z) e1 (by omega)), MV_psh hP rfl⟩
theorem m_0b (hf : FWr T U) (h : MV p d w (ts ++ [(0, (g : Int), c)]) (L) U V) (hd : d + ts.length + 4 < 1200) (hp : p < 12) (hg : g < 4160) (hw : w + (L).length < 210) (z : T.1 630 g ≠ -1) : ∃ V2, GOn Q p 1 V V2 ∧ MV p d w (ts ++ [(3, (g : Int), 0)]) (L) U V2 := by
  have hP := MV_pop h
  have e1 : (ev_pI V 621 59 ((d + ts.length : Nat) : Int)).1 621 59 = (((d + ts.length) : Nat) : Int) := rd_eq
  have e2 : (ev_pI V 621 59 ((d + ts.length : Nat) : Int)).1 621 54 = ((w + (L).length : Nat) : Int) := hP.1.2
  have fP : ∀ x i, 625 ≤ x → x ≤ 632 → (ev_pI V 621 59 ((d + ts.length : Nat) : Int)).1 x i = T.1 x i := fun x i a b => fT hf hP a b
  exact ⟨(psh (d + ts.length) (3, (g : Int), 0) (ev_pI V 621 59 ((d + ts.length : Nat) : Int))), GO_1 h (by omega) (by decide) (fun JJ => g_0b rfl hg (fun y => z ((fP 630 g (by decide) (by decide)).symm.trans y)) e1 (by omega)), MV_psh hP rfl⟩
theorem m_1a (hf : FWr T U) (h : MV p d w (ts ++ [(1, (g : Int), c)]) (L) U V) (hd : d + ts.length + 4 < 1200) (hp : p < 12) (hg : g < 4160) (hw : w + (L).length < 210) (z : T.1 625 g < 7) : ∃ V2, GOn Q p 1 V V2 ∧ MV p d w (ts) (L ++ [((if T.1 625 g = 0 then 0 else 1), (g : Int), 0)]) U V2 := by
  have hP := MV_pop h
  have e1 : (ev_pI V 621 59 ((d + ts.length : Nat) : Int)).1 621 59 = (((d + ts.length) : Nat) : Int) := rd_eq
  have e2 : (ev_pI V 621 59 ((d + ts.length : Nat) : Int)).1 621 54 = ((w + (L).length : Nat) : Int) := hP.1.2
  have fP : ∀ x i, 625 ≤ x → x ≤ 632 → (ev_pI V 621 59 ((d + ts.length : Nat) : Int)).1 x i = T.1 x i := fun x i a b => fT hf hP a b
  exact ⟨(emt p (w + L.length) ((if T.1 625 g = 0 then 0 else 1), (g : Int), 0) (ev_pI V 621 59 ((d + ts.length : Nat) : Int))), GO_1 h (by omega) (by decide) (fun JJ => g_1a rfl hg (by rw [fP 625 g (by decide) (by decide)]; exact z) (by rw [fP 625 g (by decide) (by decide)]) e2 (by omega)), MV_emt hP rfl⟩
theorem m_1o (hf : FWr T U) (h : MV p d w (ts ++ [(1, (g : Int), c)]) (L) U V) (hd : d + ts.length + 4 < 1200) (hp : p < 12) (hg : g < 4160) (hw : w + (L).length < 210) (z : 7 ≤ T.1 625 g ∧ T.1 625 g ≠ 8) : ∃ V2, GOn Q p 1 V V2 ∧ MV p d w (ts ++ [(2, (g : Int), 0)]) (L) U V2 := by
  have hP := MV_pop h
  have e1 : (ev_pI V 621 59 ((d + ts.length : Nat) : Int)).1 621 59 = (((d + ts.length) : Nat) : Int) := rd_eq
  have e2 : (ev_pI V 621 59 ((d + ts.length : Nat) : Int)).1 621 54 = ((w + (L).length : Nat) : Int) := hP.1.2
  have fP : ∀ x i, 625 ≤ x → x ≤ 632 → (ev_pI V 621 59 ((d + ts.length : Nat) : Int)).1 x i = T.1 x i := fun x i a b => fT hf hP a b
  exact ⟨(psh (d + ts.length) (2, (g : Int), 0) (ev_pI V 621 59 ((d + ts.length : Nat) : Int))), GO_1 h (by omega) (by decide) (fun JJ => g_1o rfl hg (by rw [fP 625 g (by decide) (by decide)]; exact z) e1 (by omega)), MV_psh hP rfl⟩
theorem m_1g {j : Int} (hf : FWr T U) (h : MV p d w (ts ++ [(1, (g : Int), c)]) (L) U V) (hd : d + ts.length + 4 < 1200) (hp : p < 12) (hg : g < 4160) (hw : w + (L).length < 210) (z : T.1 625 g = 8) (hj : T.1 628 g = j) (hj2 : 0 ≤ j ∧ j ≤ 9) : ∃ V2, GOn Q p 1 V V2 ∧ MV p d w ((ts ++ [(8, (g : Int), 2 * j + 1)]) ++ [(2, (g : Int), 0)]) (L ++ [(4, 2 * j, 0)]) U V2 := by
  have hP := MV_pop h
  have e1 : (ev_pI V 621 59 ((d + ts.length : Nat) : Int)).1 621 59 = (((d + ts.length) : Nat) : Int) := rd_eq
  have e2 : (ev_pI V 621 59 ((d + ts.length : Nat) : Int)).1 621 54 = ((w + (L).length : Nat) : Int) := hP.1.2
  have fP : ∀ x i, 625 ≤ x → x ≤ 632 → (ev_pI V 621 59 ((d + ts.length : Nat) : Int)).1 x i = T.1 x i := fun x i a b => fT hf hP a b
  exact ⟨(psh ((d + ts.length) + 1) (2, (g : Int), 0) (psh (d + ts.length) (8, (g : Int), 2 * j + 1) (emt p (w + L.length) (4, 2 * j, 0) (ev_pI V 621 59 ((d + ts.length : Nat) : Int))))), GO_1 h (by omega) (by decide) (fun JJ => g_1g rfl hg ((fP 625 g (by decide) (by decide)).trans z) ((fP 628 g (by decide) (by decide)).trans hj) hj2 e2 (by omega) e1 (by omega)), MV_psh (MV_psh (MV_emt hP rfl) rfl) (by rw [len1]; omega)⟩
theorem m_2 {s : Nat} (hf : FWr T U) (h : MV p d w (ts ++ [(2, (g : Int), c)]) (L) U V) (hd : d + ts.length + 4 < 1200) (hp : p < 12) (hg : g < 4160) (hw : w + (L).length < 210) (z : T.1 626 g = (s : Int)) (hs : s < 320) : ∃ V2, GOn Q p 1 V V2 ∧ MV p d w (ts ++ [(4, ((320 * p + s : Nat) : Int), 0)]) (L) U V2 := by
  have hP := MV_pop h
  have e1 : (ev_pI V 621 59 ((d + ts.length : Nat) : Int)).1 621 59 = (((d + ts.length) : Nat) : Int) := rd_eq
  have e2 : (ev_pI V 621 59 ((d + ts.length : Nat) : Int)).1 621 54 = ((w + (L).length : Nat) : Int) := hP.1.2
  have fP : ∀ x i, 625 ≤ x → x ≤ 632 → (ev_pI V 621 59 ((d + ts.length : Nat) : Int)).1 x i = T.1 x i := fun x i a b => fT hf hP a b
  exact ⟨(psh (d + ts.length) (4, ((320 * p + s : Nat) : Int), 0) (ev_pI V 621 59 ((d + ts.length : Nat) : Int))), GO_1 h (by omega) (by decide) (fun JJ => g_2 rfl hg ((fP 626 g (by decide) (by decide)).trans z) hp hs e1 (by omega)), MV_psh hP rfl⟩
theorem m_3a {i : Nat} (hf : FWr T U) (h : MV p d w (ts ++ [(3, (g : Int), (i : Int))]) (L) U V) (hd : d + ts.length + 4 < 1200) (hp : p < 12) (hg : g < 4160) (hw : w + (L).length < 210) (hi : i < 30) (z : (i : Int) < T.1 631 g) : ∃ V2, GOn Q p 1 V V2 ∧ MV p d w ((ts ++ [(3, (g : Int), ((i + 1 : Nat) : Int))]) ++ [(1, (g : Int), 0)]) (L) U V2 := by
  have hP := MV_pop h
  have e1 : (ev_pI V 621 59 ((d + ts.length : Nat) : Int)).1 621 59 = (((d + ts.length) : Nat) : Int) := rd_eq
  have e2 : (ev_pI V 621 59 ((d + ts.length : Nat) : Int)).1 621 54 = ((w + (L).length : Nat) : Int) := hP.1.2
  have fP : ∀ x i, 625 ≤ x → x ≤ 632 → (ev_pI V 621 59 ((d + ts.length : Nat) : Int)).1 x i = T.1 x i := fun x i a b => fT hf hP a b
  exact ⟨(psh ((d + ts.length) + 1) (1, (g : Int), 0) (psh (d + ts.length) (3, (g : Int), ((i + 1 : Nat) : Int)) (ev_pI V 621 59 ((d + ts.length : Nat) : Int)))), GO_1 h (by omega) (by decide) (fun JJ => g_3 rfl hg (sp_311a hg hi (by rw [fP 631 g (by decide) (by decide)]; exact z) e1 (by omega))), MV_psh (MV_psh hP rfl) (by rw [len1]; omega)⟩
theorem m_3b {i : Nat} (hf : FWr T U) (h : MV p d w (ts ++ [(3, (g : Int), (i : Int))]) (L) U V) (hd : d + ts.length + 4 < 1200) (hp : p < 12) (hg : g < 4160) (hw : w + (L).length < 210) (z : T.1 631 g ≤ (i : Int)) (z2 : T.1 632 g ≠ -1) (z3 : T.1 632 g ≤ (i : Int)) : ∃ V2, GOn Q p 1 V V2 ∧ MV p d w (ts) (L) U V2 := by
  have hP := MV_pop h
  have e1 : (ev_pI V 621 59 ((d + ts.length : Nat) : Int)).1 621 59 = (((d + ts.length) : Nat) : Int) := rd_eq
  have e2 : (ev_pI V 621 59 ((d + ts.length : Nat) : Int)).1 621 54 = ((w + (L).length : Nat) : Int) := hP.1.2
  have fP : ∀ x i, 625 ≤ x → x ≤ 632 → (ev_pI V 621 59 ((d + ts.length : Nat) : Int)).1 x i = T.1 x i := fun x i a b => fT hf hP a b
  exact ⟨(ev_pI V 621 59 ((d + ts.length : Nat) : Int)), GO_1 h (by omega) (by decide) (fun JJ => g_3 rfl hg (sp_311b hg (by rw [fP 631 g (by decide) (by decide)]; exact z) (by rw [fP 632 g (by decide) (by decide)]; exact z2) (by rw [fP 632 g (by decide) (by decide)]; exact z3))), hP⟩
theorem m_3c {i : Nat} (hf : FWr T U) (h : MV p d w (ts ++ [(3, (g : Int), (i : Int))]) (L) U V) (hd : d + ts.length + 4 < 1200) (hp : p < 12) (hg : g < 4160) (hw : w + (L).length < 210) (z : T.1 631 g ≤ (i : Int)) (z2 : T.1 632 g = -1) : ∃ V2, GOn Q p 1 V V2 ∧ MV p d w ((ts ++ [(5, (g : Int), ((w + L.length : Nat) : Int))]) ++ [(1, (g : Int), 0)]) (L ++ [(2, ((w + L.length : Nat) : Int) + 1, ((w + L.length : Nat) : Int) + 1)]) U V2 := by
  have hP := MV_pop h
  have e1 : (ev_pI V 621 59 ((d + ts.length : Nat) : Int)).1 621 59 = (((d + ts.length) : Nat) : Int) := rd_eq
  have e2 : (ev_pI V 621 59 ((d + ts.length : Nat) : Int)).1 621 54 = ((w + (L).length : Nat) : Int) := hP.1.2
  have fP : ∀ x i, 625 ≤ x → x ≤ 632 → (ev_pI V 621 59 ((d + ts.length : Nat) : Int)).1 x i = T.1 x i := fun x i a b => fT hf hP a b
  exact ⟨(psh ((d + ts.length) + 1) (1, (g : Int), 0) (psh (d + ts.length) (5, (g : Int), ((w + L.length : Nat) : Int)) (emt p (w + L.length) (2, ((w + L.length : Nat) : Int) + 1, ((w + L.length : Nat) : Int) + 1) (ev_pI V 621 59 ((d + ts.length : Nat) : Int))))), GO_1 h (by omega) (by decide) (fun JJ => g_3 rfl hg (sp_311c hg (by rw [fP 631 g (by decide) (by decide)]; exact z) (by rw [fP 632 g (by decide) (by decide)]; exact z2) e1 (by omega) e2 (by omega))), MV_psh (MV_psh (MV_emt hP rfl) rfl) (by rw [len1]; omega)⟩
theorem m_3d {i : Nat} (hf : FWr T U) (h : MV p d w (ts ++ [(3, (g : Int), (i : Int))]) (L) U V) (hd : d + ts.length + 4 < 1200) (hp : p < 12) (hg : g < 4160) (hw : w + (L).length < 210) (hi : i < 30) (z : T.1 631 g ≤ (i : Int)) (z2 : T.1 632 g ≠ -1) (z3 : (i : Int) < T.1 632 g) : ∃ V2, GOn Q p 1 V V2 ∧ MV p d w (((ts ++ [(6, (g : Int), ((w + L.length : Nat) : Int))]) ++ [(3, (g : Int), ((i + 1 : Nat) : Int))]) ++ [(1, (g : Int), 0)]) (L ++ [(2, ((w + L.length : Nat) : Int) + 1, ((w + L.length : Nat) : Int) + 1)]) U V2 := by
  have hP := MV_pop h
  have e1 : (ev_pI V 621 59 ((d + ts.length : Nat) : Int)).1 621 59 = (((d + ts.length) : Nat) : Int) := rd_eq
  have e2 : (ev_pI V 621 59 ((d + ts.length : Nat) : Int)).1 621 54 = ((w + (L).length : Nat) : Int) := hP.1.2
  have fP : ∀ x i, 625 ≤ x → x ≤ 632 → (ev_pI V 621 59 ((d + ts.length : Nat) : Int)).1 x i = T.1 x i := fun x i a b => fT hf hP a b
  exact ⟨(psh ((d + ts.length) + 1 + 1) (1, (g : Int), 0) (psh ((d + ts.length) + 1) (3, (g : Int), ((i + 1 : Nat) : Int)) (psh (d + ts.length) (6, (g : Int), ((w + L.length : Nat) : Int)) (emt p (w + L.length) (2, ((w + L.length : Nat) : Int) + 1, ((w + L.length : Nat) : Int) + 1) (ev_pI V 621 59 ((d + ts.length : Nat) : Int)))))), GO_1 h (by omega) (by decide) (fun JJ => g_3 rfl hg (sp_311d hg hi (by rw [fP 631 g (by decide) (by decide)]; exact z) (by rw [fP 632 g (by decide) (by decide)]; exact z2) (by rw [fP 632 g (by decide) (by decide)]; exact z3) e1 (by omega) e2 (by omega))), MV_psh (MV_psh (MV_psh (MV_emt hP rfl) rfl) (by rw [len1]; omega)) (by rw [len1, len1]; omega)⟩
theorem m_4a (hf : FWr T U) (h : MV p d w (ts ++ [(4, (g : Int), c)]) (L) U V) (hd : d + ts.length + 4 < 1200) (hp : p < 12) (hg : g < 4160) (hw : w + (L).length < 210) (z : T.1 627 g = -1) : ∃ V2, GOn Q p 1 V V2 ∧ MV p d w (ts ++ [(10, (g : Int), 0)]) (L) U V2 := by
  have hP := MV_pop h
  have e1 : (ev_pI V 621 59 ((d + ts.length : Nat) : Int)).1 621 59 = (((d + ts.length) : Nat) : Int) := rd_eq
  have e2 : (ev_pI V 621 59 ((d + ts.length : Nat) : Int)).1 621 54 = ((w + (L).length : Nat) : Int) := hP.1.2
  have fP : ∀ x i, 625 ≤ x → x ≤ 632 → (ev_pI V 621 59 ((d + ts.length : Nat) : Int)).1 x i = T.1 x i := fun x i a b => fT hf hP a b
  exact ⟨(psh (d + ts.length) (10, (g : Int), 0) (ev_pI V 621 59 ((d + ts.length : Nat) : Int))), GO_1 h (by omega) (by decide) (fun JJ => g_4a rfl hg ((fP 627 g (by decide) (by decide)).trans z) e1 (by omega)), MV_psh hP rfl⟩
theorem m_4b (hf : FWr T U) (h : MV p d w (ts ++ [(4, (g : Int), c)]) (L) U V) (hd : d + ts.length + 4 < 1200) (hp : p < 12) (hg : g < 4160) (hw : w + (L).length < 210) (z : T.1 627 g ≠ -1) : ∃ V2, GOn Q p 1 V V2 ∧ MV p d w ((ts ++ [(7, (g : Int), ((w + L.length : Nat) : Int))]) ++ [(10, (g : Int), 0)]) (L ++ [(2, ((w + L.length : Nat) : Int) + 1, 0)]) U V2 := by
  have hP := MV_pop h
  have e1 : (ev_pI V 621 59 ((d + ts.length : Nat) : Int)).1 621 59 = (((d + ts.length) : Nat) : Int) := rd_eq
  have e2 : (ev_pI V 621 59 ((d + ts.length : Nat) : Int)).1 621 54 = ((w + (L).length : Nat) : Int) := hP.1.2
  have fP : ∀ x i, 625 ≤ x → x ≤ 632 → (ev_pI V 621 59 ((d + ts.length : Nat) : Int)).1 x i = T.1 x i := fun x i a b => fT hf hP a b
  exact ⟨(psh ((d + ts.length) + 1) (10, (g : Int), 0) (psh (d + ts.length) (7, (g : Int), ((w + L.length : Nat) : Int)) (emt p (w + L.length) (2, ((w + L.length : Nat) : Int) + 1, 0) (ev_pI V 621 59 ((d + ts.length : Nat) : Int))))), GO_1 h (by omega) (by decide) (fun JJ => g_4b rfl hg (fun y => z ((fP 627 g (by decide) (by decide)).symm.trans y)) e2 (by omega) e1 (by omega)), MV_psh (MV_psh (MV_emt hP rfl) rfl) (by rw [len1]; omega)⟩
theorem m_5 {o l r : Int} (hf : FWr T U) (h : MV p d w (ts ++ [(5, (g : Int), (a : Int))]) (A ++ (o, l, r) :: B) U V) (hd : d + ts.length + 4 < 1200) (hp : p < 12) (hg : g < 4160) (hw : w + (A ++ (o, l, r) :: B).length < 210) (ha : a = w + A.length) : ∃ V2, GOn Q p 1 V V2 ∧ MV p d w (ts) (A ++ (if T.1 630 g = 1 then (o, (((w + (A ++ (o, l, r) :: B).length) + 1 : Nat) : Int), r) else (o, l, (((w + (A ++ (o, l, r) :: B).length) + 1 : Nat) : Int))) :: (B ++ [(3, (a : Int), 0)])) U V2 := by
  have hP := MV_pop h
  have e1 : (ev_pI V 621 59 ((d + ts.length : Nat) : Int)).1 621 59 = (((d + ts.length) : Nat) : Int) := rd_eq
  have e2 : (ev_pI V 621 59 ((d + ts.length : Nat) : Int)).1 621 54 = ((w + (A ++ (o, l, r) :: B).length : Nat) : Int) := hP.1.2
  have fP : ∀ x i, 625 ≤ x → x ≤ 632 → (ev_pI V 621 59 ((d + ts.length : Nat) : Int)).1 x i = T.1 x i := fun x i a b => fT hf hP a b
  have hE := MV_emt (t := (3, (a : Int), 0)) hP rfl
  rw [List.append_assoc, List.cons_append] at hE
  have fE : (emt p (w + (A ++ (o, l, r) :: B).length) (3, (a : Int), 0) (ev_pI V 621 59 ((d + ts.length : Nat) : Int))).1 630 g = T.1 630 g := fT hf hE (by decide) (by decide)
  have la : a < 210 := by
    have : (A ++ (o, l, r) :: B).length = A.length + (B.length + 1) := by rw [List.length_append, List.length_cons]
    omega
  have s := sp_312 (Q := Q) (V := emt p (w + (A ++ (o, l, r) :: B).length) (3, (a : Int), 0) (ev_pI V 621 59 ((d + ts.length : Nat) : Int))) hg rfl la hp
  rw [fE, emt_s] at s
  by_cases z : T.1 630 g = 1
  · rw [if_pos z] at s ⊢
    exact ⟨_, GO_1 h (by omega) (by decide) (fun JJ => g_5 rfl hg e2 (by omega) s), MV_lft hE (by omega)⟩
  · rw [if_neg z] at s ⊢
    exact ⟨_, GO_1 h (by omega) (by decide) (fun JJ => g_5 rfl hg e2 (by omega) s), MV_rgt hE (by omega)⟩
theorem m_6 {o l r : Int} (hf : FWr T U) (h : MV p d w (ts ++ [(6, (g : Int), (a : Int))]) (A ++ (o, l, r) :: B) U V) (hd : d + ts.length + 4 < 1200) (hp : p < 12) (hg : g < 4160) (hw : w + (A ++ (o, l, r) :: B).length < 210) (ha : a = w + A.length) : ∃ V2, GOn Q p 1 V V2 ∧ MV p d w (ts) (A ++ (if T.1 630 g = 1 then (o, (((w + (A ++ (o, l, r) :: B).length) : Nat) : Int), r) else (o, l, (((w + (A ++ (o, l, r) :: B).length) : Nat) : Int))) :: B) U V2 := by
  have hP := MV_pop h
  have e1 : (ev_pI V 621 59 ((d + ts.length : Nat) : Int)).1 621 59 = (((d + ts.length) : Nat) : Int) := rd_eq
  have e2 : (ev_pI V 621 59 ((d + ts.length : Nat) : Int)).1 621 54 = ((w + (A ++ (o, l, r) :: B).length : Nat) : Int) := hP.1.2
  have fP : ∀ x i, 625 ≤ x → x ≤ 632 → (ev_pI V 621 59 ((d + ts.length : Nat) : Int)).1 x i = T.1 x i := fun x i a b => fT hf hP a b
  have fE : (ev_pI V 621 59 ((d + ts.length : Nat) : Int)).1 630 g = T.1 630 g := fP 630 g (by decide) (by decide)
  have la : a < 210 := by
    have : (A ++ (o, l, r) :: B).length = A.length + (B.length + 1) := by rw [List.length_append, List.length_cons]
    omega
  have s := sp_312 (Q := Q) (V := (ev_pI V 621 59 ((d + ts.length : Nat) : Int))) hg rfl la hp
  rw [fE, e2] at s
  by_cases z : T.1 630 g = 1
  · rw [if_pos z] at s ⊢
    exact ⟨_, GO_1 h (by omega) (by decide) (fun JJ => g_6 rfl hg s), MV_lft hP (by omega)⟩
  · rw [if_neg z] at s ⊢
    exact ⟨_, GO_1 h (by omega) (by decide) (fun JJ => g_6 rfl hg s), MV_rgt hP (by omega)⟩
theorem m_7 {o l r : Int} {s : Nat} (hf : FWr T U) (h : MV p d w (ts ++ [(7, (g : Int), (a : Int))]) (A ++ (o, l, r) :: B) U V) (hd : d + ts.length + 4 < 1200) (hp : p < 12) (hg : g < 4160) (hw : w + (A ++ (o, l, r) :: B).length < 210) (ha : a = w + A.length) (z : T.1 627 g = (s : Int)) (hs : s < 320) : ∃ V2, GOn Q p 1 V V2 ∧ MV p d w ((ts ++ [(9, (g : Int), (((w + (A ++ (o, l, r) :: B).length) : Nat) : Int))]) ++ [(4, ((320 * p + s : Nat) : Int), 0)]) (A ++ (o, l, (((w + (A ++ (o, l, r) :: B).length) + 1 : Nat) : Int)) :: (B ++ [(3, 0, 0)])) U V2 := by
  have hP := MV_pop h
  have e1 : (ev_pI V 621 59 ((d + ts.length : Nat) : Int)).1 621 59 = (((d + ts.length) : Nat) : Int) := rd_eq
  have e2 : (ev_pI V 621 59 ((d + ts.length : Nat) : Int)).1 621 54 = ((w + (A ++ (o, l, r) :: B).length : Nat) : Int) := hP.1.2
  have fP : ∀ x i, 625 ≤ x → x ≤ 632 → (ev_pI V 621 59 ((d + ts.length : Nat) : Int)).1 x i = T.1 x i := fun x i a b => fT hf hP a b
  have hE := MV_emt (t := (3, 0, 0)) hP rfl
  rw [List.append_assoc, List.cons_append] at hE
  have la : a < 210 := by
    have : (A ++ (o, l, r) :: B).length = A.length + (B.length + 1) := by rw [List.length_append, List.length_cons]
    omega
  have hR := MV_rgt (v := (((w + (A ++ (o, l, r) :: B).length) + 1 : Nat) : Int)) (e := 210 * p + a) hE (by omega)
  exact ⟨_, GO_1 h (by omega) (by decide) (fun JJ => g_7 rfl hg rfl la ((fP 627 g (by decide) (by decide)).trans z) hp hs e2 (by omega) e1 (by omega)), MV_psh (MV_psh hR rfl) (by rw [len1]; omega)⟩
theorem m_8 (hf : FWr T U) (h : MV p d w (ts ++ [(8, (g : Int), c)]) (L) U V) (hd : d + ts.length + 4 < 1200) (hp : p < 12) (hg : g < 4160) (hw : w + (L).length < 210)  : ∃ V2, GOn Q p 1 V V2 ∧ MV p d w (ts) (L ++ [(4, c, 0)]) U V2 := by
  have hP := MV_pop h
  have e1 : (ev_pI V 621 59 ((d + ts.length : Nat) : Int)).1 621 59 = (((d + ts.length) : Nat) : Int) := rd_eq
  have e2 : (ev_pI V 621 59 ((d + ts.length : Nat) : Int)).1 621 54 = ((w + (L).length : Nat) : Int) := hP.1.2
  have fP : ∀ x i, 625 ≤ x → x ≤ 632 → (ev_pI V 621 59 ((d + ts.length : Nat) : Int)).1 x i = T.1 x i := fun x i a b => fT hf hP a b
  exact ⟨(emt p (w + L.length) (4, c, 0) (ev_pI V 621 59 ((d + ts.length : Nat) : Int))), GO_1 h (by omega) (by decide) (fun JJ => g_8 rfl hg e2 (by omega)), MV_emt hP rfl⟩
theorem m_9 {o l r : Int} (hf : FWr T U) (h : MV p d w (ts ++ [(9, (g : Int), (a : Int))]) (A ++ (o, l, r) :: B) U V) (hd : d + ts.length + 4 < 1200) (hp : p < 12) (hg : g < 4160) (hw : w + (A ++ (o, l, r) :: B).length < 210) (ha : a = w + A.length) : ∃ V2, GOn Q p 1 V V2 ∧ MV p d w (ts) (A ++ (o, (((w + (A ++ (o, l, r) :: B).length) : Nat) : Int), r) :: B) U V2 := by
  have hP := MV_pop h
  have e1 : (ev_pI V 621 59 ((d + ts.length : Nat) : Int)).1 621 59 = (((d + ts.length) : Nat) : Int) := rd_eq
  have e2 : (ev_pI V 621 59 ((d + ts.length : Nat) : Int)).1 621 54 = ((w + (A ++ (o, l, r) :: B).length : Nat) : Int) := hP.1.2
  have fP : ∀ x i, 625 ≤ x → x ≤ 632 → (ev_pI V 621 59 ((d + ts.length : Nat) : Int)).1 x i = T.1 x i := fun x i a b => fT hf hP a b
  have la : a < 210 := by
    have : (A ++ (o, l, r) :: B).length = A.length + (B.length + 1) := by rw [List.length_append, List.length_cons]
    omega
  have hR := MV_lft (v := (((w + (A ++ (o, l, r) :: B).length) : Nat) : Int)) (e := 210 * p + a) hP (by omega)
  exact ⟨_, GO_1 h (by omega) (by decide) (fun JJ => g_9 rfl hg rfl la hp e2 (by omega)), hR⟩
theorem m_10a (hf : FWr T U) (h : MV p d w (ts ++ [(10, (g : Int), c)]) (L) U V) (hd : d + ts.length + 4 < 1200) (hp : p < 12) (hg : g < 4160) (hw : w + (L).length < 210) (z : T.1 626 g = -1) : ∃ V2, GOn Q p 1 V V2 ∧ MV p d w (ts) (L) U V2 := by
  have hP := MV_pop h
  have e1 : (ev_pI V 621 59 ((d + ts.length : Nat) : Int)).1 621 59 = (((d + ts.length) : Nat) : Int) := rd_eq
  have e2 : (ev_pI V 621 59 ((d + ts.length : Nat) : Int)).1 621 54 = ((w + (L).length : Nat) : Int) := hP.1.2
  have fP : ∀ x i, 625 ≤ x → x ≤ 632 → (ev_pI V 621 59 ((d + ts.length : Nat) : Int)).1 x i = T.1 x i := fun x i a b => fT hf hP a b
  exact ⟨(ev_pI V 621 59 ((d + ts.length : Nat) : Int)), GO_1 h (by omega) (by decide) (fun JJ => g_10a rfl hg ((fP 626 g (by decide) (by decide)).trans z)), hP⟩
theorem m_10b {s : Nat} (hf : FWr T U) (h : MV p d w (ts ++ [(10, (g : Int), c)]) (L) U V) (hd : d + ts.length + 4 < 1200) (hp : p < 12) (hg : g < 4160) (hw : w + (L).length < 210) (z : T.1 626 g = (s : Int)) (hs : s < 320) : ∃ V2, GOn Q p 1 V V2 ∧ MV p d w (ts ++ [(11, ((320 * p + s : Nat) : Int), 0)]) (L) U V2 := by
  have hP := MV_pop h
  have e1 : (ev_pI V 621 59 ((d + ts.length : Nat) : Int)).1 621 59 = (((d + ts.length) : Nat) : Int) := rd_eq
  have e2 : (ev_pI V 621 59 ((d + ts.length : Nat) : Int)).1 621 54 = ((w + (L).length : Nat) : Int) := hP.1.2
  have fP : ∀ x i, 625 ≤ x → x ≤ 632 → (ev_pI V 621 59 ((d + ts.length : Nat) : Int)).1 x i = T.1 x i := fun x i a b => fT hf hP a b
  exact ⟨(psh (d + ts.length) (11, ((320 * p + s : Nat) : Int), 0) (ev_pI V 621 59 ((d + ts.length : Nat) : Int))), GO_1 h (by omega) (by decide) (fun JJ => g_10b rfl hg ((fP 626 g (by decide) (by decide)).trans z) hp hs e1 (by omega)), MV_psh hP rfl⟩
theorem m_11a (hf : FWr T U) (h : MV p d w (ts ++ [(11, (g : Int), c)]) (L) U V) (hd : d + ts.length + 4 < 1200) (hp : p < 12) (hg : g < 4160) (hw : w + (L).length < 210) (z : T.1 627 g = -1) : ∃ V2, GOn Q p 1 V V2 ∧ MV p d w (ts ++ [(0, (g : Int), 0)]) (L) U V2 := by
  have hP := MV_pop h
  have e1 : (ev_pI V 621 59 ((d + ts.length : Nat) : Int)).1 621 59 = (((d + ts.length) : Nat) : Int) := rd_eq
  have e2 : (ev_pI V 621 59 ((d + ts.length : Nat) : Int)).1 621 54 = ((w + (L).length : Nat) : Int) := hP.1.2
  have fP : ∀ x i, 625 ≤ x → x ≤ 632 → (ev_pI V 621 59 ((d + ts.length : Nat) : Int)).1 x i = T.1 x i := fun x i a b => fT hf hP a b
  refine ⟨(psh (d + ts.length) (0, (g : Int), 0) (ev_pI V 621 59 ((d + ts.length : Nat) : Int))), fun q => ?_, MV_psh hP rfl⟩
  obtain ⟨a1, _, a3⟩ := MV_one h
  show jb_313_23 Q _ _ _ V = _
  rw [pop313 a1 (by omega) a3, g_11 rfl hg, tl_11a rfl hg e1 (by omega) ((fP 627 g (by decide) (by decide)).trans z)]
theorem m_11b {s : Nat} (hf : FWr T U) (h : MV p d w (ts ++ [(11, (g : Int), c)]) (L) U V) (hd : d + ts.length + 4 < 1200) (hp : p < 12) (hg : g < 4160) (hw : w + (L).length < 210) (z : T.1 627 g = (s : Int)) (hs : s < 320) : ∃ V2, GOn Q p 1 V V2 ∧ MV p d w ((ts ++ [(11, ((320 * p + s : Nat) : Int), 0)]) ++ [(0, (g : Int), 0)]) (L) U V2 := by
  have hP := MV_pop h
  have e1 : (ev_pI V 621 59 ((d + ts.length : Nat) : Int)).1 621 59 = (((d + ts.length) : Nat) : Int) := rd_eq
  have e2 : (ev_pI V 621 59 ((d + ts.length : Nat) : Int)).1 621 54 = ((w + (L).length : Nat) : Int) := hP.1.2
  have fP : ∀ x i, 625 ≤ x → x ≤ 632 → (ev_pI V 621 59 ((d + ts.length : Nat) : Int)).1 x i = T.1 x i := fun x i a b => fT hf hP a b
  refine ⟨(psh ((d + ts.length) + 1) (0, (g : Int), 0) (psh (d + ts.length) (11, ((320 * p + s : Nat) : Int), 0) (ev_pI V 621 59 ((d + ts.length : Nat) : Int)))), fun q => ?_, MV_psh (MV_psh hP rfl) (by rw [len1]; omega)⟩
  obtain ⟨a1, _, a3⟩ := MV_one h
  show jb_313_23 Q _ _ _ V = _
  rw [pop313 a1 (by omega) a3, g_11 rfl hg, tl_11b rfl hg e1 (by omega) ((fP 627 g (by decide) (by decide)).trans z) hp hs]
end PROG17
