/-! what holds at the law's loop; every call keeps it, and both sides answer the same -/
def InvL (w : Wt) : Prop := XAt w.2 ∧ MAt w.2 ∧ SrI w ∧ PlayR w.1 ∧ RowR w.1 ∧ StatR w.1 ∧ AskR w.1 ∧ TapR w.1 ∧ w.1 0 10 = w.1 111 5
theorem SrI.ag {I I2 : Mem} {h : Shp} (s : SrI (I, h)) (e : ∀ x, (83 ≤ x ∧ x ≤ 88) ∨ 122 ≤ x → I2 x = I x) : SrI (I2, h) := by
  obtain ⟨nw, nx, n, f, fo, w, l1, l2⟩ := s
  have a := w.2.2.1
  have c := w.2.2.2.1
  exact ⟨nw, nx, n, f, fo, w, l1.ag (e _ (by unfold lyA at a; omega)) (e _ (by unfold lyA at a; omega)) (e _ (by unfold lyA at a; omega)), l2.ag (e _ (by unfold lyA at c; omega)) (e _ (by unfold lyA at c; omega)) (e _ (by unfold lyA at c; omega))⟩
theorem AskR.ag {I I2 : Mem} (h : AskR I) (e1 : I2 91 1 = I 91 1) (e2 : I2 111 11 = I 111 11) (e3 : I2 92 = I 92) (e4 : I2 118 = I 118) : AskR I2 := by
  obtain ⟨l, a1, a2, a3, a4⟩ := h
  exact ⟨l, a1, e1.trans a2, e2.trans a3, fun i hi => by rw [e3, e4]; exact a4 i hi⟩
theorem TapR.ag {I I2 : Mem} (h : TapR I) (e1 : I2 13 1 = I 13 1) (e2 : I2 111 4 = I 111 4) (e3 : I2 14 = I 14) (e4 : I2 114 = I 114) : TapR I2 := by
  obtain ⟨L, a1, a2, a3, a4⟩ := h
  exact ⟨L, a1, e1.trans a2, e2.trans a3, fun i hi => by rw [e3, e4]; exact a4 i hi⟩
theorem StatR.ag {I I2 : Mem} (h : StatR I) (e1 : I2 0 11 = I 0 11) (e2 : I2 111 6 = I 111 6) : StatR I2 := e1.trans (Eq.trans h e2.symm)
theorem RowR.ag {I I2 : Mem} (h : RowR I) (e : ∀ x, x = 2 ∨ x = 3 ∨ (5 ≤ x ∧ x ≤ 12) ∨ (115 ≤ x ∧ x ≤ 117) → I2 x = I x) : RowR I2 := h.agr (fun x y hs => congrFun (e x hs) y)
/-- two sides of a call -/
def Cl (f g : Mem → Option (Int32 × Mem)) : Prop := ∀ (I : Mem) (h : Shp), InvL (I, h) → ∃ r I1 I2, f I = some (r, I1) ∧ g I1 = some (r, I2) ∧ InvL (I2, h)
theorem cl_rows {I I2 : Mem} {h : Shp} (k : InvL (I, h)) (r1 : RowR I2) (r2 : StatR I2) (f : RowFr I I2) : InvL (I2, h) := by
  obtain ⟨k1, k2, k3, k4, k5, k6, k7, k8, k9⟩ := k
  have e0 := f.2.1
  have e1 := f.2.2
  refine ⟨k1, k2, k3.ag (fun x hx => f.1 x (by omega)), PlayR.agr k4 (fun x hx => f.1 x (by omega)) (e0 9 (by omega)) (e1 2 (by omega)) (fun j _ => congrFun (f.1 112 (by omega)) j), r1, r2, k7.ag (congrFun (f.1 91 (by omega)) _) (e1 11 (by omega)) (f.1 92 (by omega)) (f.1 118 (by omega)), k8.ag (congrFun (f.1 13 (by omega)) _) (e1 4 (by omega)) (f.1 14 (by omega)) (f.1 114 (by omega)), ?_⟩
  exact (e0 10 (by omega)).trans (Eq.trans k9 (e1 5 (by omega)).symm)
theorem cl_play {I I2 : Mem} {h : Shp} (k : InvL (I, h)) (r : PlayR I2) (f : PFr I I2) : InvL (I2, h) := by
  obtain ⟨k1, k2, k3, k4, k5, k6, k7, k8, k9⟩ := k
  have e := f.1
  refine ⟨k1, k2, k3.ag (fun x hx => e x (by omega) (by omega)), r, k5.ag (fun x hx => e x (by omega) (by omega)), k6.ag (congrFun (e 0 (by omega) (by omega)) _) (f.2 6 (by omega)), k7.ag (congrFun (e 91 (by omega) (by omega)) _) (f.2 11 (by omega)) (e 92 (by omega) (by omega)) (e 118 (by omega) (by omega)), k8.ag (congrFun (e 13 (by omega) (by omega)) _) (f.2 4 (by omega)) (e 14 (by omega) (by omega)) (e 114 (by omega) (by omega)), ?_⟩
  show I2 0 10 = I2 111 5
  rw [e 0 (by omega) (by omega), f.2 5 (by omega)]
  exact k9
theorem cl_pure {f g : Mem → Option (Int32 × Mem)} (e : ∀ (I : Mem) (h : Shp), InvL (I, h) → ∃ r, f I = some (r, I) ∧ g I = some (r, I)) : Cl f g := fun I h k => by
  obtain ⟨r, a, c⟩ := e I h k
  exact ⟨r, I, I, a, c, k⟩
theorem cl_row (p1 p2 p3 : Int32) : Cl (fun I => fnX9_row I p1 p2 p3) (fun I => fnX10_row I p1 p2 p3) := fun I h k => by
  obtain ⟨r, I1, I2, a1, a2, a3, a4, a5, a6, a7⟩ := p_row k.2.2.2.2.1 k.2.2.2.2.2.1 p1 p2 p3
  exact ⟨r, I1, I2, a1, a2, cl_rows k a3 a4 ⟨a5, a6, a7⟩⟩
theorem cl_set (p1 p2 p3 : Int32) : Cl (fun I => fnX9_set I p1 p2 p3) (fun I => fnX10_set I p1 p2 p3) := fun I h k => by
  obtain ⟨r, I1, I2, a1, a2, a3, a4, a5⟩ := p_set k.2.2.2.2.1 k.2.2.2.2.2.1 p1 p2 p3
  exact ⟨r, I1, I2, a1, a2, cl_rows k a3 a4 a5⟩
theorem cl_copy (p1 p2 p3 p4 p5 : Int32) : Cl (fun I => fnX9_copy I p1 p2 p3 p4 p5) (fun I => fnX10_copy I p1 p2 p3 p4 p5) := fun I h k => by
  obtain ⟨r, I1, I2, a1, a2, a3, a4, a5⟩ := p_copy k.2.2.2.2.1 k.2.2.2.2.2.1 p1 p2 p3 p4 p5
  exact ⟨r, I1, I2, a1, a2, cl_rows k a3 a4 a5⟩
theorem cl_drop (p1 : Int32) : Cl (fun I => fnX9_drop I p1) (fun I => fnX10_drop I p1) := fun I h k => by
  obtain ⟨r, I1, I2, a1, a2, a3, a4, a5⟩ := p_drop k.2.2.2.2.1 k.2.2.2.2.2.1 p1
  exact ⟨r, I1, I2, a1, a2, cl_rows k a3 a4 a5⟩
theorem cl_feed (w : Int64) (p3 : Int32) : Cl (fun I => fnX9_feed I w p3) (fun I => fnX10_feed I w p3) := fun I h k => by
  obtain ⟨r, I1, I2, a1, a2, a3, a4⟩ := p_feed k.2.2.2.2.2.2.2.1 w p3
  refine ⟨r, I1, I2, a1, a2, ?_⟩
  obtain ⟨k1, k2, k3, k4, k5, k6, k7, k8, k9⟩ := k
  have e := a4.1
  refine ⟨k1, k2, k3.ag (fun x hx => e x (by omega) (by omega) (by omega) (by omega)), PlayR.agr k4 (fun x hx => e x (by omega) (by omega) (by omega) (by omega)) (congrFun (e 0 (by omega) (by omega) (by omega) (by omega)) _) (a4.2 2 (by omega)) (fun j _ => congrFun (e 112 (by omega) (by omega) (by omega) (by omega)) j), k5.ag (fun x hx => e x (by omega) (by omega) (by omega) (by omega)), k6.ag (congrFun (e 0 (by omega) (by omega) (by omega) (by omega)) _) (a4.2 6 (by omega)), k7.ag (congrFun (e 91 (by omega) (by omega) (by omega) (by omega)) _) (a4.2 11 (by omega)) (e 92 (by omega) (by omega) (by omega) (by omega)) (e 118 (by omega) (by omega) (by omega) (by omega)), a3, ?_⟩
  show I2 0 10 = I2 111 5
  rw [e 0 (by omega) (by omega) (by omega) (by omega), a4.2 5 (by omega)]
  exact k9
theorem cl_table : Cl fnX9_table fnX10_table := fun I h k => by
  obtain ⟨r, I1, I2, a1, a2, a3, a4, a5, a6⟩ := p_table k.2.2.2.1 k.2.2.2.2.2.2.2.1 k.2.2.2.2.2.2.2.2
  refine ⟨r, I1, I2, a1, a2, ?_⟩
  obtain ⟨k1, k2, k3, k4, k5, k6, k7, k8, k9⟩ := k
  have e := a6.1
  refine ⟨k1, k2, k3.ag (fun x hx => e x (by omega) (by omega) (by omega) (by omega) (by omega) (by omega)), a3, k5.ag (fun x hx => e x (by omega) (by omega) (by omega) (by omega) (by omega) (by omega)), k6.ag (a6.2.1 11 (by omega) (by omega)) a6.2.2.1, k7.ag (congrFun (e 91 (by omega) (by omega) (by omega) (by omega) (by omega) (by omega)) _) a6.2.2.2 (e 92 (by omega) (by omega) (by omega) (by omega) (by omega) (by omega)) (e 118 (by omega) (by omega) (by omega) (by omega) (by omega) (by omega)), a4, a5⟩
theorem cl_fault : Cl fnX9_fault fnX10_fault := cl_pure fun I h k => p_fault k.2.2.2.2.2.2.2.2
theorem cl_steps (p1 : Int32) : Cl (fun I => fnX9_steps I p1) (fun I => fnX10_steps I p1) := fun I h k => by
  obtain ⟨r, I1, I2, a1, a2, a3, a4⟩ := p_steps k.2.2.2.1 p1
  exact ⟨r, I1, I2, a1, a2, cl_play k a3 a4⟩
theorem cl_nudge : Cl fnX9_nudge fnX10_nudge := fun I h k => by
  obtain ⟨r, I1, I2, a1, a2, a3, a4⟩ := p_nudge k.2.2.2.1
  exact ⟨r, I1, I2, a1, a2, cl_play k a3 a4⟩
theorem cl_flip : Cl fnX9_flip fnX10_flip := fun I h k => by
  obtain ⟨r, I1, I2, a1, a2, a3, a4⟩ := p_flip k.2.2.2.1
  exact ⟨r, I1, I2, a1, a2, cl_play k a3 a4⟩
theorem cl_put (p1 p2 : Int32) : Cl (fun I => fnX9_put I p1 p2) (fun I => fnX10_put I p1 p2) := fun I h k => by
  obtain ⟨r, I1, I2, a1, a2, a3, a4⟩ := p_put k.2.2.2.1 p1 p2
  exact ⟨r, I1, I2, a1, a2, cl_play k a3 a4⟩
theorem cl_undo : Cl fnX9_undo fnX10_undo := fun I h k => by
  obtain ⟨r, I1, I2, a1, a2, a3, a4⟩ := p_undo k.2.2.2.1
  exact ⟨r, I1, I2, a1, a2, cl_play k a3 a4⟩
theorem cl_ball (p1 : Int32) : Cl (fun I => fnX9_ball I p1) (fun I => fnX10_ball I p1) := cl_pure fun I h k => p_ball k.2.2.2.1 p1
theorem cl_pin (p1 p2 : Int32) : Cl (fun I => fnX9_pin I p1 p2) (fun I => fnX10_pin I p1 p2) := cl_pure fun I h k => p_pin k.2.2.2.1 p1 p2
theorem cl_ahead (p1 p2 : Int32) : Cl (fun I => fnX9_ahead I p1 p2) (fun I => fnX10_ahead I p1 p2) := fun I h k => by
  obtain ⟨r, I1, I2, a1, a2, a3, a4⟩ := p_ahead k.2.2.2.1 p1 p2
  exact ⟨r, I1, I2, a1, a2, cl_play k a3 a4⟩
theorem cl_lasts (p1 : Int32) : Cl (fun I => fnX9_lasts I p1) (fun I => fnX10_lasts I p1) := fun I h k => by
  obtain ⟨r, I1, I2, a1, a2, a3, a4⟩ := p_lasts k.2.2.2.1 p1
  exact ⟨r, I1, I2, a1, a2, cl_play k a3 a4⟩
theorem cl_richest (p1 p2 : Int32) : Cl (fun I => fnX9_richest I p1 p2) (fun I => fnX10_richest I p1 p2) := fun I h k => by
  obtain ⟨r, I1, I2, a1, a2, a3, a4⟩ := p_richest k.2.2.2.1 p1 p2
  exact ⟨r, I1, I2, a1, a2, cl_play k a3 a4⟩
theorem cl_heard (p1 p2 p3 p4 : Int32) : Cl (fun I => fnX9_heard I p1 p2 p3 p4) (fun I => fnX10_heard I p1 p2 p3 p4) := fun I h k => by
  obtain ⟨r, I1, I2, a1, a2, a3, a4⟩ := p_heard k.2.2.2.1 k.2.2.2.2.1 k.2.2.2.2.2.1 p1 p2 p3 p4
  refine ⟨r, I1, I2, a1, a2, ?_⟩
  obtain ⟨k1, k2, k3, k4, k5, k6, k7, k8, k9⟩ := k
  have e := a4.1
  refine ⟨k1, k2, k3.ag (fun x hx => e x (by omega) (by omega) (by omega) (by omega) (by omega)), PlayR.hf k4 a4, RowR.hf k5 a4, a3, k7.ag (congrFun (e 91 (by omega) (by omega) (by omega) (by omega) (by omega)) _) (a4.2.2.1 11 (by omega)) (e 92 (by omega) (by omega) (by omega) (by omega) (by omega)) (e 118 (by omega) (by omega) (by omega) (by omega) (by omega)), k8.ag (congrFun (e 13 (by omega) (by omega) (by omega) (by omega) (by omega)) _) (a4.2.2.1 4 (by omega)) (e 14 (by omega) (by omega) (by omega) (by omega) (by omega)) (e 114 (by omega) (by omega) (by omega) (by omega) (by omega)), ?_⟩
  exact (a4.2.1 10 (by omega)).trans (Eq.trans k9 (a4.2.2.1 5 (by omega)).symm)
theorem cl_image (p1 : Int32) : Cl (fun I => fnX9_image I p1) (fun I => fnX10_image I p1) := fun I h k => by
  obtain ⟨r, I1, I2, a1, a2, a3, a4⟩ := p_image k.2.2.2.1 p1
  exact ⟨r, I1, I2, a1, a2, cl_play k a3 a4⟩
theorem cl_restore (p1 : Int32) : Cl (fun I => fnX9_restore I p1) (fun I => fnX10_restore I p1) := fun I h k => by
  obtain ⟨r, I1, I2, a1, a2, a3, a4⟩ := p_restore k.2.2.2.1 p1
  exact ⟨r, I1, I2, a1, a2, cl_play k a3 a4⟩
theorem cl_kind (p1 : Int32) : Cl (fun I => fnX9_kind I p1) (fun I => fnX10_kind I p1) := cl_pure fun I h k => p_kind k.2.2.2.1 p1
theorem cl_as (p1 p2 : Int32) : Cl (fun I => fnX9_as I p1 p2) (fun I => fnX10_as I p1 p2) := fun I h k => by
  obtain ⟨r, I1, I2, a1, a2, a3⟩ := p_as k.2.2.2.1 p1 p2
  refine ⟨r, I1, I2, a1, a2, ?_⟩
  rcases a3 with rfl | ⟨v, rfl⟩
  · exact k
  · exact cl_rows k (stat_agr k.2.2.2.2.1) stat_ok RowFr.st
theorem cl_ask (p1 p2 : Int32) : Cl (fun I => fnX9_ask I p1 p2) (fun I => fnX10_ask I p1 p2) := fun I h k => by
  obtain ⟨r, I1, I2, a1, a2, a3, a4⟩ := p_ask k.2.2.2.1 k.2.2.2.2.2.2.1 p1 p2
  refine ⟨r, I1, I2, a1, a2, ?_⟩
  obtain ⟨k1, k2, k3, k4, k5, k6, k7, k8, k9⟩ := k
  have e := a4.1
  refine ⟨k1, k2, k3.ag (fun x hx => e x (by omega) (by omega) (by omega) (by omega)), PlayR.agr k4 (fun x hx => e x (by omega) (by omega) (by omega) (by omega)) (congrFun (e 0 (by omega) (by omega) (by omega) (by omega)) _) (a4.2 2 (by omega)) (fun j _ => congrFun (e 112 (by omega) (by omega) (by omega) (by omega)) j), k5.ag (fun x hx => e x (by omega) (by omega) (by omega) (by omega)), k6.ag (congrFun (e 0 (by omega) (by omega) (by omega) (by omega)) _) (a4.2 6 (by omega)), a3, k8.ag (congrFun (e 13 (by omega) (by omega) (by omega) (by omega)) _) (a4.2 4 (by omega)) (e 14 (by omega) (by omega) (by omega) (by omega)) (e 114 (by omega) (by omega) (by omega) (by omega)), ?_⟩
  show I2 0 10 = I2 111 5
  rw [e 0 (by omega) (by omega) (by omega) (by omega), a4.2 5 (by omega)]
  exact k9
theorem cl_trace (p1 : Int32) : Cl (fun I => fnX9_trace I p1) (fun I => fnX10_trace I p1) := cl_pure fun I h k => p_trace k.2.2.2.2.2.2.1 p1
theorem cl_count (p1 : Int32) : Cl (fun I => fnX9_count I p1) (fun I => fnX10_count I p1) := cl_pure fun I h k => by
  have hL : I 13 1 = I 111 4 := by
    obtain ⟨L, _, a, c, _⟩ := k.2.2.2.2.2.2.2.1
    exact Eq.trans a c.symm
  exact p_count k.2.2.2.1 k.2.2.2.2.1 hL p1
theorem cl_status : Cl fnX9_status fnX10_status := cl_pure fun I h k => p_status k.2.2.2.2.2.1
theorem cl_nok {w w1 : Wt} {I2 : Mem} {mB sB : Nat} (k : InvL w) (f : NOk w w1 I2 mB sB) : InvL (I2, w1.2) := by
  obtain ⟨k1, k2, k3, k4, k5, k6, k7, k8, k9⟩ := k
  obtain ⟨-, -, -, f4, f5, f6⟩ := f
  have e := f6.1
  refine ⟨XAt_x f4 k1, MAt_x f4 k2, f5, PlayR.nf k4 f6, k5.ag (fun x hx => e x (by omega) (by omega) (by omega) (by omega)), k6.ag (congrFun (e 0 (by omega) (by omega) (by omega) (by omega)) _) (congrFun (e 111 (by omega) (by omega) (by omega) (by omega)) _), k7.ag (congrFun (e 91 (by omega) (by omega) (by omega) (by omega)) _) (congrFun (e 111 (by omega) (by omega) (by omega) (by omega)) _) (e 92 (by omega) (by omega) (by omega) (by omega)) (e 118 (by omega) (by omega) (by omega) (by omega)), k8.ag (congrFun (e 13 (by omega) (by omega) (by omega) (by omega)) _) (congrFun (e 111 (by omega) (by omega) (by omega) (by omega)) _) (e 14 (by omega) (by omega) (by omega) (by omega)) (e 114 (by omega) (by omega) (by omega) (by omega)), ?_⟩
  show I2 0 10 = I2 111 5
  rw [e 0 (by omega) (by omega) (by omega) (by omega), e 111 (by omega) (by omega) (by omega) (by omega)]
  exact k9
/-- what the constructors leave -/
def wE : Wt := (fun _ _ => 0, fun _ _ => none, fun _ => 0, fun _ => 0, 0)
def w9 : Wt := (fwX9_init 110 2252 (al wE 9 12) 0 0 0).getD wE
def wA : Wt := (fwX10_init 10 22780 (al w9 10 22) 0 0 111).getD wE
