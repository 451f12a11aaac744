/-! ===== fields, arrays ===== -/
theorem warm_self (s : State) : s.WarmedH s.vm := ⟨rfl, rfl, fun _ k h => ⟨k, h, rfl, rfl, fun _ => Or.inl rfl, Or.inl ⟨rfl, rfl⟩⟩⟩
theorem rng_set {n k : Nat} {f f1 : Nat → Value} {v : Value} (h1 : f1 k = v) (h2 : ∀ j, j ≠ k → f1 j = f j) : ((List.range n).map f).set k v = (List.range n).map f1 := by
  apply List.ext_getElem?
  intro j
  by_cases hj : j = k
  · subst hj
    by_cases hl : j < n
    · rw [List.getElem?_set_self (by simpa using hl), List.getElem?_map, List.getElem?_range hl]
      exact (congrArg some h1).symm
    · rw [List.getElem?_eq_none (by simpa using Nat.le_of_not_lt hl), List.getElem?_eq_none (by simpa using Nat.le_of_not_lt hl)]
  · rw [List.getElem?_set_ne (fun h => hj h.symm), List.getElem?_map, List.getElem?_map]
    by_cases hl : j < n
    · rw [List.getElem?_range hl]
      exact (congrArg some (h2 j hj)).symm
    · rw [List.getElem?_eq_none (by simpa using Nat.le_of_not_lt hl)]
      rfl
/-- a class's row: its name, its fields, how many, its words -/
def Kd (kd : Nat) (Cn : String) (T : u_T) (n : Nat) (ty0 : Nat → FieldType) : Prop := vwCl[kd]? = some (Cn, T, n) ∧ (∀ w ∈ u_ws Cn T n, Wk w) ∧ kd < 11 ∧ nsl kd = n ∧ (∀ k, k < n → parseFieldDescriptor (T k).2.2.1 = some (ty0 k)) ∧ (∀ a, a < n → ∀ b, b < n → a ≠ b → (T a).2.1 ≠ (T b).2.1)
section XF
variable {g : Cfg} {own : String} {cc : ByteArray} {nL fr lo mc ms cells slots pc : Nat} {w : Wt} {lv : List (Nat × Value)} {st : List Value}
variable {kd k n idx a : Nat} {Cn : String} {T : u_T} {ty0 : Nat → FieldType}
theorem cell_get {B : Bs} {H : Heap} (hKd : Kd kd Cn T n ty0) (ha : ta w.2 a kd) (hP : va_P B.2.2.1 vwCl (pool B.2.1 B.2.2.2.1 w) H) : (pool B.2.1 B.2.2.2.1 w)[a]? = some (B.2.1 + a, .inr (kd, (List.range n).map (slV B.2.1 w.1 w.2.1 kd a))) := by
  rw [pool_get ha.2, cellE_obj ha.1 hKd.2.2.1, hKd.2.2.2.1]
theorem xr_get (C : Cx g own cc nL fr lo mc ms) (hKd : Kd kd Cn T n ty0) (hk : k < n) (hT : (T k).1 = Cn) (hw : Wk (Cond.fieldLink own idx Cn (T k).2.1 (T k).2.2.1)) (ha : ta w.2 a kd) (hd : decode cc pc = .ok (.getfield idx, 3)) (K : XE g cells slots w (pc + 3) lv (slV g.1.2.1 w.1 w.2.1 kd a k :: st)) : XE g cells slots w pc lv (rf g a :: st) := by
  obtain ⟨B, p, e, Rm, s, m, args, below, meth, c, Q⟩ := g
  intro H locs ls hz hP hS hl
  have hcell := cell_get hKd ha hP
  exact va_get (D := B.2.2.1) (ref := Cn) (Ts := u_ws Cn T n) C.1 C.2.1 (fun w hw => C.2.2.2.2.1.1 w (hKd.2.1 w hw) _) (fun _ h => h) C.2.2.2.1 C.2.2.2.2.1.2.2.1 hP a hcell hKd.1 k hk (C.2.2.2.2.1.1 _ hw _) (fun x hx => by rw [hT] at hx; exact hx) (by rw [List.getElem?_map, List.getElem?_range hk]; rfl) hd (K H locs ls hz hP hS hl)
theorem xr_getN (C : Cx g own cc nL fr lo mc ms) (hKd : Kd kd Cn T n ty0) (hk : k < n) (hT : (T k).1 = Cn) (hw : Cond.fieldLinkNest own idx Cn (T k).2.1 (T k).2.2.1 "BumperBalls" ∈ nestWs) (ha : ta w.2 a kd) (hd : decode cc pc = .ok (.getfield idx, 3)) (K : XE g cells slots w (pc + 3) lv (slV g.1.2.1 w.1 w.2.1 kd a k :: st)) : XE g cells slots w pc lv (rf g a :: st) := by
  obtain ⟨B, p, e, Rm, s, m, args, below, meth, c, Q⟩ := g
  intro H locs ls hz hP hS hl
  have hcell := cell_get hKd ha hP
  exact va_getN (D := B.2.2.1) (ref := Cn) (Ts := u_ws Cn T n) C.1 C.2.1 (fun w hw => C.2.2.2.2.1.1 w (hKd.2.1 w hw) _) (fun _ h => h) C.2.2.2.1 C.2.2.2.2.1.2.2.1 hP a hcell hKd.1 k hk (va_Nw.use rfl (C.2.2.2.2.1.2.1 _ hw)) (fun x hx => by rw [hT] at hx; exact hx) (by rw [List.getElem?_map, List.getElem?_range hk]; rfl) hd (K H locs ls hz hP hS hl)
theorem slV_i {b : Nat} {I : Mem} {R : Rfs} {kd a k : Nat} (h : slR kd k = false) : slV b I R kd a k = .int (I a k) := by
  unfold slV
  rw [h]
  rfl
theorem slV_r {b : Nat} {I : Mem} {R : Rfs} {kd a k r : Nat} (h : slR kd k = true) (hr : R a k = some r) : slV b I R kd a k = .ref (b + r) := by
  unfold slV
  rw [h, hr]
  rfl
theorem xr_geti (C : Cx g own cc nL fr lo mc ms) (hKd : Kd kd Cn T n ty0) (hk : k < n) (hT : (T k).1 = Cn) (hw : Wk (Cond.fieldLink own idx Cn (T k).2.1 (T k).2.2.1)) (hs : slR kd k = false) (ha : ta w.2 a kd) (hd : decode cc pc = .ok (.getfield idx, 3)) (K : XE g cells slots w (pc + 3) lv (.int (w.1 a k) :: st)) : XE g cells slots w pc lv (rf g a :: st) := xr_get C hKd hk hT hw ha hd (by rw [slV_i hs]; exact K)
theorem xr_getiN (C : Cx g own cc nL fr lo mc ms) (hKd : Kd kd Cn T n ty0) (hk : k < n) (hT : (T k).1 = Cn) (hw : Cond.fieldLinkNest own idx Cn (T k).2.1 (T k).2.2.1 "BumperBalls" ∈ nestWs) (hs : slR kd k = false) (ha : ta w.2 a kd) (hd : decode cc pc = .ok (.getfield idx, 3)) (K : XE g cells slots w (pc + 3) lv (.int (w.1 a k) :: st)) : XE g cells slots w pc lv (rf g a :: st) := xr_getN C hKd hk hT hw ha hd (by rw [slV_i hs]; exact K)
theorem xr_getr (C : Cx g own cc nL fr lo mc ms) (hKd : Kd kd Cn T n ty0) (hk : k < n) (hT : (T k).1 = Cn) (hw : Wk (Cond.fieldLink own idx Cn (T k).2.1 (T k).2.2.1)) (hs : slR kd k = true) (ha : ta w.2 a kd) {r : Nat} (hr : w.2.1 a k = some r) (hd : decode cc pc = .ok (.getfield idx, 3)) (K : XE g cells slots w (pc + 3) lv (rf g r :: st)) : XE g cells slots w pc lv (rf g a :: st) := xr_get C hKd hk hT hw ha hd (by rw [slV_r hs hr]; exact K)
theorem xr_getrN (C : Cx g own cc nL fr lo mc ms) (hKd : Kd kd Cn T n ty0) (hk : k < n) (hT : (T k).1 = Cn) (hw : Cond.fieldLinkNest own idx Cn (T k).2.1 (T k).2.2.1 "BumperBalls" ∈ nestWs) (hs : slR kd k = true) (ha : ta w.2 a kd) {r : Nat} (hr : w.2.1 a k = some r) (hd : decode cc pc = .ok (.getfield idx, 3)) (K : XE g cells slots w (pc + 3) lv (rf g r :: st)) : XE g cells slots w pc lv (rf g a :: st) := xr_getN C hKd hk hT hw ha hd (by rw [slV_r hs hr]; exact K)
theorem cellE_putI {b : Nat} {cs : Nat → ClassId} {I : Mem} {R : Rfs} {K N : Nat → Nat} {v : Int32} (h : K a = kd) (hk : kd < 11) (hn : nsl kd = n) (hs : slR kd k = false) : cellE b cs (up2 I a k v) R K N a = .inr (kd, ((List.range n).map (slV b I R kd a)).set k (.int v)) := by
  rw [cellE_obj h hk, hn, rng_set (f1 := slV b (up2 I a k v) R kd a)]
  · rw [slV_i hs, up2_eq]
    simp
  · intro j hj
    simp only [slV, up2_eq]
    rw [if_neg hj]
theorem cellE_putR {b : Nat} {cs : Nat → ClassId} {I : Mem} {R : Rfs} {K N : Nat → Nat} {r : Option Nat} (h : K a = kd) (hk : kd < 11) (hn : nsl kd = n) (hs : slR kd k = true) : cellE b cs I (up2 R a k r) K N a = .inr (kd, ((List.range n).map (slV b I R kd a)).set k (rfv b r)) := by
  rw [cellE_obj h hk, hn, rng_set (f1 := slV b I (up2 R a k r) kd a)]
  · unfold slV
    rw [hs, up2_eq]
    simp
  · intro j hj
    simp only [slV, up2_eq]
    rw [if_neg hj]
theorem xr_putI (C : Cx g own cc nL fr lo mc ms) (hKd : Kd kd Cn T n ty0) (hk : k < n) (hT : (T k).1 = Cn) (hF : (T k).2.2.2 = false) (hw : Wk (Cond.fieldLink own idx Cn (T k).2.1 (T k).2.2.1)) (hs : slR kd k = false) {v : Int32} (hv : narrow (ty0 k) (.int v) = .int v) (hf : fits (ty0 k) (.int v) = true) (ha : ta w.2 a kd) (hd : decode cc pc = .ok (.putfield idx, 3)) {I1 : Mem} (h1 : I1 = up2 w.1 a k v) (K : XE g cells slots (I1, w.2) (pc + 3) lv st) : XE g cells slots w pc lv (.int v :: rf g a :: st) := by
  obtain ⟨B, p, e, Rm, s, m, args, below, meth, c, Q⟩ := g
  obtain ⟨I, R, K0, N, sz⟩ := w
  intro H locs ls hz hP hS hl
  have hcell := cell_get hKd ha hP
  refine va_put (D := B.2.2.1) (ref := Cn) (Ts := u_ws Cn T n) (ty := ty0 k) C.1 C.2.1 (fun w hw => C.2.2.2.2.1.1 w (hKd.2.1 w hw) _) (fun _ h => h) ty0 hKd.2.2.2.2.1 hKd.2.2.2.2.2 C.2.2.2.1 C.2.2.2.2.1.2.2.1 hP pool_D hS a hcell hKd.1 k hk (C.2.2.2.2.1.1 _ hw _) (fun x hx => by rw [hT] at hx; exact hx) hF (hKd.2.2.2.2.1 k hk) hv hf (by simpa using hk) hd (fun H1 locs1 hP1 hD1 hS1 => ?_)
  refine K H1 locs1 ls hz ?_ hS1 hl
  rw [h1]
  rw [pool_set (I1 := up2 I a k v) (R1 := R) ha.2 (cellE_putI ha.1 hKd.2.2.1 hKd.2.2.2.1 hs) (fun x hx => up2_ne hx) (fun _ _ => rfl)] at hP1
  exact hP1
theorem xr_putIN (C : Cx g own cc nL fr lo mc ms) (hKd : Kd kd Cn T n ty0) (hk : k < n) (hT : (T k).1 = Cn) (hF : (T k).2.2.2 = false) (hw : Cond.fieldLinkNest own idx Cn (T k).2.1 (T k).2.2.1 "BumperBalls" ∈ nestWs) (hs : slR kd k = false) {v : Int32} (hv : narrow (ty0 k) (.int v) = .int v) (hf : fits (ty0 k) (.int v) = true) (ha : ta w.2 a kd) (hd : decode cc pc = .ok (.putfield idx, 3)) {I1 : Mem} (h1 : I1 = up2 w.1 a k v) (K : XE g cells slots (I1, w.2) (pc + 3) lv st) : XE g cells slots w pc lv (.int v :: rf g a :: st) := by
  obtain ⟨B, p, e, Rm, s, m, args, below, meth, c, Q⟩ := g
  obtain ⟨I, R, K0, N, sz⟩ := w
  intro H locs ls hz hP hS hl
  have hcell := cell_get hKd ha hP
  refine va_putN (D := B.2.2.1) (ref := Cn) (Ts := u_ws Cn T n) (ty := ty0 k) C.1 C.2.1 (fun w hw => C.2.2.2.2.1.1 w (hKd.2.1 w hw) _) (fun _ h => h) ty0 hKd.2.2.2.2.1 hKd.2.2.2.2.2 C.2.2.2.1 C.2.2.2.2.1.2.2.1 hP pool_D hS a hcell hKd.1 k hk (va_Nw.use rfl (C.2.2.2.2.1.2.1 _ hw)) (fun x hx => by rw [hT] at hx; exact hx) hF (hKd.2.2.2.2.1 k hk) hv hf (by simpa using hk) hd (fun H1 locs1 hP1 hD1 hS1 => ?_)
  refine K H1 locs1 ls hz ?_ hS1 hl
  rw [h1]
  rw [pool_set (I1 := up2 I a k v) (R1 := R) ha.2 (cellE_putI ha.1 hKd.2.2.1 hKd.2.2.2.1 hs) (fun x hx => up2_ne hx) (fun _ _ => rfl)] at hP1
  exact hP1
theorem xr_putR (C : Cx g own cc nL fr lo mc ms) (hKd : Kd kd Cn T n ty0) (hk : k < n) (hT : (T k).1 = Cn) (hF : (T k).2.2.2 = false) (hw : Wk (Cond.fieldLink own idx Cn (T k).2.1 (T k).2.2.1)) (hs : slR kd k = true) {r : Nat} (hv : narrow (ty0 k) (.ref 0) = .ref 0 → ∀ q : Nat, narrow (ty0 k) (.ref q) = .ref q ∧ fits (ty0 k) (.ref q) = true) (hv0 : narrow (ty0 k) (.ref 0) = .ref 0) (ha : ta w.2 a kd) (hd : decode cc pc = .ok (.putfield idx, 3)) {R1 : Rfs} (h1 : R1 = up2 w.2.1 a k (some r)) (K : XE g cells slots (w.1, R1, w.2.2) (pc + 3) lv st) : XE g cells slots w pc lv (rf g r :: rf g a :: st) := by
  obtain ⟨B, p, e, Rm, s, m, args, below, meth, c, Q⟩ := g
  obtain ⟨I, R, K0, N, sz⟩ := w
  intro H locs ls hz hP hS hl
  have hcell := cell_get hKd ha hP
  refine va_put (D := B.2.2.1) (ref := Cn) (Ts := u_ws Cn T n) (ty := ty0 k) (v := .ref (B.2.1 + r)) C.1 C.2.1 (fun w hw => C.2.2.2.2.1.1 w (hKd.2.1 w hw) _) (fun _ h => h) ty0 hKd.2.2.2.2.1 hKd.2.2.2.2.2 C.2.2.2.1 C.2.2.2.2.1.2.2.1 hP pool_D hS a hcell hKd.1 k hk (C.2.2.2.2.1.1 _ hw _) (fun x hx => by rw [hT] at hx; exact hx) hF (hKd.2.2.2.2.1 k hk) (hv hv0 _).1 (hv hv0 _).2 (by simpa using hk) hd (fun H1 locs1 hP1 hD1 hS1 => ?_)
  refine K H1 locs1 ls hz ?_ hS1 hl
  rw [h1]
  rw [show Value.ref (B.2.1 + r) = rfv B.2.1 (some r) from rfl] at hP1
  rw [pool_set (I1 := I) (R1 := up2 R a k (some r)) ha.2 (cellE_putR (r := some r) ha.1 hKd.2.2.1 hKd.2.2.2.1 hs) (fun _ _ => rfl) (fun x hx => up2_ne hx)] at hP1
  exact hP1
end XF
section XA
variable {g : Cfg} {own : String} {cc : ByteArray} {nL fr lo mc ms cells slots pc : Nat} {w : Wt} {lv : List (Nat × Value)} {st : List Value} {a n : Nat} {i : Int32}
theorem cell_int {B : Bs} (ha : tA w.2 a 11 n) : (pool B.2.1 B.2.2.2.1 w)[a]? = some (B.2.1 + a, .inl (B.2.2.2.1 11, n, .inl (w.1 a))) := by
  rw [pool_get ha.2.1, cellE_int ha.1 ha.2.2]
theorem xr_iald (C : Cx g own cc nL fr lo mc ms) (ha : tA w.2 a 11 n) (hi : inb i n = true) (hd : decode cc pc = .ok (.iaload, 1)) (K : XE g cells slots w (pc + 1) lv (.int (w.1 a (ix i)) :: st)) : XE g cells slots w pc lv (.int i :: rf g a :: st) := by
  obtain ⟨B, p, e, Rm, s, m, args, below, meth, c, Q⟩ := g
  intro H locs ls hz hP hS hl
  exact va_iald C.1 C.2.1 C.2.2.2.2.1.2.2.1 hP a 0 (cell_int ha) rfl (inb_in hi) hd (K H locs ls hz hP hS hl)
theorem xr_iast (C : Cx g own cc nL fr lo mc ms) {x : Int32} (ha : tA w.2 a 11 n) (hi : inb i n = true) (hd : decode cc pc = .ok (.iastore, 1)) {I1 : Mem} (h1 : I1 = up2 w.1 a (ix i) x) (K : XE g cells slots (I1, w.2) (pc + 1) lv st) : XE g cells slots w pc lv (.int x :: .int i :: rf g a :: st) := by
  obtain ⟨B, p, e, Rm, s, m, args, below, meth, c, Q⟩ := g
  obtain ⟨I, R, K0, N, sz⟩ := w
  intro H locs ls hz hP hS hl
  refine va_iast C.1 C.2.1 C.2.2.2.2.1.2.2.1 hP pool_D hS a 0 (cell_int ha) rfl (inb_in hi) hd (fun H1 locs1 hP1 hD1 hS1 => ?_)
  refine K H1 locs1 ls hz ?_ hS1 hl
  rw [h1]
  rw [pool_set (I1 := up2 I a (ix i) x) (R1 := R) ha.2.1 (by rw [cellE_int ha.1 ha.2.2, up2_eq]; rfl) (fun x hx => up2_ne hx) (fun _ _ => rfl)] at hP1
  exact hP1
theorem xr_aald (C : Cx g own cc nL fr lo mc ms) {kd r : Nat} (hk : kd = 12 ∨ kd = 13 ∨ kd = 14) (ha : tA w.2 a kd n) (hi : inb i n = true) (hr : w.2.1 a (ix i) = some r) (hd : decode cc pc = .ok (.aaload, 1)) (K : XE g cells slots w (pc + 1) lv (rf g r :: st)) : XE g cells slots w pc lv (.int i :: rf g a :: st) := by
  obtain ⟨B, p, e, Rm, s, m, args, below, meth, c, Q⟩ := g
  intro H locs ls hz hP hS hl
  have hK := C.2.2.2.2.1.2.2.1
  have hin := inb_in hi
  have hlt : i.toNatClampNeg < n := Nat.not_le.mp fun q => hin (Or.inr q)
  have hcell : (pool B.2.1 B.2.2.2.1 w)[a]? = some (B.2.1 + a, .inl (B.2.2.2.1 kd, n, .inr (.inr (.inr (.inr (fun j => (w.2.1 a j).map (fun x => B.2.1 + x))))))) := by
    rw [pool_get ha.2.1, cellE_ref ha.1 (by omega) ha.2.2]
  have hv : va_rf ((w.2.1 a (ix i)).map (fun x => B.2.1 + x)) = .ref (B.2.1 + r) := by rw [hr]; rfl
  rcases hk with rfl | rfl | rfl
  · refine va_aldq C.1 C.2.1 hK hP a 1 hcell rfl hin hd ?_
    have k2 := K H locs ls hz hP hS hl
    rw [show ix i = i.toNatClampNeg from rfl] at hv
    rw [hv]
    exact k2
  · refine va_aldq C.1 C.2.1 hK hP a 2 hcell rfl hin hd ?_
    have k2 := K H locs ls hz hP hS hl
    rw [show ix i = i.toNatClampNeg from rfl] at hv
    rw [hv]
    exact k2
  · refine W.aald (v := va_rf ((w.2.1 a (ix i)).map (fun x => B.2.1 + x))) (ty := .array .int) C.1 C.2.1 (hP a _ hcell) ((hK.2 3 _ rfl).1 n (fun j => va_rf ((w.2.1 a j).map (fun x => B.2.1 + x)))) rfl (fun q => by cases q) (by show ¬ (i < 0 ∨ (arrV _ _ _).slots.size ≤ _); rw [arrV_size]; exact hin) (by show (arrV _ _ _).slots[_]? = _; rw [arrV_read _ _ hlt]; rfl) rfl rfl hd ?_
    rw [hv]
    exact K H locs ls hz hP hS hl
end XA
/-! ===== calls: contracts, entry, return ===== -/
def CtrI (B : Bs) (y : MethodName) (cc : ByteArray) (nL : Nat) (ret : Option FieldType) (fr lo mc ms : Nat) (as : List Value) (w : Wt) (r : Int32) (w1 : Wt) : Prop :=
  Met B.1 y [.code y cc nL ret] { frames := fr, cells := mc, slots := ms, locals := lo } (va_Pc as (fun U => WD B w U)) (va_Qi (fun (x : Int32) (_ : Unit) => x = r) (fun _ t => WD B w1 t) (fun q => B.2.1 ≤ q)) mc ms (fun q => B.2.1 ≤ q)
def CtrV (B : Bs) (y : MethodName) (cc : ByteArray) (nL : Nat) (fr lo mc ms : Nat) (as : List Value) (w : Wt) (w1 : Wt) : Prop :=
  Met B.1 y [.code y cc nL none] { frames := fr, cells := mc, slots := ms, locals := lo } (va_Pc as (fun U => WD B w U)) (va_Qv (fun (_ : Unit) => True) (fun _ t => WD B w1 t) (fun q => B.2.1 ≤ q)) mc ms (fun q => B.2.1 ≤ q)
def QI (g : Cfg) (ret : Option FieldType) (mc ms : Nat) (r : Int32) (w1 : Wt) : Prop := match g with
  | (B, _, _, _, s, _, args, below, meth, _, Q) => meth.sig.returnType = ret ∧ Q = MQ below (va_Qi (fun (x : Int32) (_ : Unit) => x = r) (fun _ t => WD B w1 t) (fun q => B.2.1 ≤ q)) args s mc ms (fun q => B.2.1 ≤ q)
def QV (g : Cfg) (mc ms : Nat) (w1 : Wt) : Prop := match g with
  | (B, _, _, _, s, _, args, below, meth, _, Q) => meth.sig.returnType = none ∧ Q = MQ below (va_Qv (fun (_ : Unit) => True) (fun _ t => WD B w1 t) (fun q => B.2.1 ≤ q)) args s mc ms (fun q => B.2.1 ≤ q)
theorem WD.blind {B : Bs} {w : Wt} {as : List Value} : FrameBlind (va_Pc as (fun U => WD B w U)) := fun a U g mk q => by
  obtain ⟨q0, q1, q2, q3⟩ := q
  refine ⟨q0, q1, q2, ?_⟩
  exact SW.step (U := U.calling g mk a) q3 (warm_self U) (fun _ _ _ => rfl) (Nat.le_refl _)
/-- how many cells there are, out of the count of those that were made -/
theorem sz_of {B : Bs} {p : Program} {e : Env} {Rm : Room} {s : State} {m : MethodId} {args : Array Value} {below : List Frame} {meth : Method} {c : Code} {T : State} {locs : List Loc} {cells slots : Nat} {w : Wt} (X : Stand p B.1 e Rm s m args below meth c T locs cells slots) (hz : s.heap.size + cells = B.2.1 + w.2.2.2.2) (hb : B.2.1 ≤ s.heap.size) (hP : va_P B.2.2.1 vwCl (pool B.2.1 B.2.2.2.1 w) T.heap) : T.heap.size = B.2.1 + w.2.2.2.2 := by
  have h1 : s.heap.size ≤ T.heap.size := X.same.2.1
  have h2 : T.heap.size ≤ s.heap.size + cells := X.same.2.2.1
  rcases Nat.eq_zero_or_pos w.2.2.2.2 with h0 | h0
  · omega
  · have h3 := (hP (w.2.2.2.2 - 1) _ (pool_get (by omega))).lt
    have h4 : B.2.1 + (w.2.2.2.2 - 1) < T.heap.size := h3
    omega
section XC
variable {g : Cfg} {own : String} {cc : ByteArray} {nL fr lo mc ms cells slots pc : Nat} {w : Wt} {lv : List (Nat × Value)} {st : List Value}
theorem xr_enterI {B : Bs} {y : MethodName} {ret : Option FieldType} {as : List Value} {r : Int32} {w1 : Wt} {lv0 : List (Nat × Value)} (hy : plainName y.cls = true) (hn : (lg_sl as).length ≤ nL) (hlv : lv_args 0 as = lv0) (body : ∀ g : Cfg, g.1 = B → Cx g y.cls cc nL fr lo mc ms → QI g ret mc ms r w1 → XE g 0 0 w 0 lv0 []) : CtrI B y cc nL ret fr lo mc ms as w r w1 := by
  refine Met.ofW (cc := cc) (maxL := nL) (ret := ret) hy rfl ?_
  intro p e s m args below meth c s₁ Bd hml hv
  obtain ⟨rfl, hsz, hP, hSW⟩ := hv
  have hb : B.2.1 ≤ s.heap.size := by rw [hsz]; exact Nat.le_add_right _ _
  have hl := lv_entry as (n := nL) hn
  rw [lg_entry_eq, hlv] at *
  have := body (B, p, e, ({ frames := fr, cells := mc, slots := ms, locals := lo } : Room), s, m, as.toArray, below, meth, c, _) rfl ⟨Bd.exec, Bd.bytes, hml, findClass_of_methodNamed Bd.named, hSW, hb, Bd.notSynchronized, rfl, rfl, rfl, rfl⟩ ⟨Bd.returns, rfl⟩ s.heap [] _ (by rw [hsz]; rfl) hP va_S.rf (by rw [hml]; exact hl)
  exact this
theorem xr_enterV {B : Bs} {y : MethodName} {as : List Value} {w1 : Wt} {lv0 : List (Nat × Value)} (hy : plainName y.cls = true) (hn : (lg_sl as).length ≤ nL) (hlv : lv_args 0 as = lv0) (body : ∀ g : Cfg, g.1 = B → Cx g y.cls cc nL fr lo mc ms → QV g mc ms w1 → XE g 0 0 w 0 lv0 []) : CtrV B y cc nL fr lo mc ms as w w1 := by
  refine Met.ofW (cc := cc) (maxL := nL) (ret := none) hy rfl ?_
  intro p e s m args below meth c s₁ Bd hml hv
  obtain ⟨rfl, hsz, hP, hSW⟩ := hv
  have hb : B.2.1 ≤ s.heap.size := by rw [hsz]; exact Nat.le_add_right _ _
  have hl := lv_entry as (n := nL) hn
  rw [lg_entry_eq, hlv] at *
  have := body (B, p, e, ({ frames := fr, cells := mc, slots := ms, locals := lo } : Room), s, m, as.toArray, below, meth, c, _) rfl ⟨Bd.exec, Bd.bytes, hml, findClass_of_methodNamed Bd.named, hSW, hb, Bd.notSynchronized, rfl, rfl, rfl, rfl⟩ ⟨Bd.returns, rfl⟩ s.heap [] _ (by rw [hsz]; rfl) hP va_S.rf (by rw [hml]; exact hl)
  exact this
theorem xr_ireturn (C : Cx g own cc nL fr lo mc ms) {ret : Option FieldType} {ty : FieldType} {r v : Int32} {w1 : Wt} (q : QI g ret mc ms r w1) (hret : ret = some ty) (hn : narrow ty (.int v) = .int v) (hd : decode cc pc = .ok (.ireturn, 1)) (h : v = r) (hw : w = w1) : XE g mc ms w pc lv [.int v] := by
  obtain ⟨B, p, e, Rm, s, m, args, below, meth, c, Q⟩ := g
  obtain ⟨q1, q2⟩ := q
  subst q2 h hw hret
  intro H locs ls hz hP hS hl T hT X
  have hsz : H.size = B.2.1 + w.2.2.2.2 := by rw [← hT]; exact sz_of X hz C.2.2.2.2.2.1 (by rw [hT]; exact hP)
  exact W.zret (v := v) C.1 C.2.1 q1 hn (fun t ht hW => ⟨⟨v, (), rfl, rfl, by rw [ht]; exact hsz, by rw [ht]; exact hP, C.2.2.2.2.1.step hW (fun a h1 h2 => by rw [ht]; exact hS.2.1 a h1 h2) (by rw [ht]; exact hS.1)⟩, hS.F ht⟩) hS.2.2 hd C.2.2.2.2.2.2.1 T hT X
theorem xr_return (C : Cx g own cc nL fr lo mc ms) {w1 : Wt} (q : QV g mc ms w1) (hd : decode cc pc = .ok (.return_, 1)) (hw : w = w1) : XE g mc ms w pc lv [] := by
  obtain ⟨B, p, e, Rm, s, m, args, below, meth, c, Q⟩ := g
  obtain ⟨q1, q2⟩ := q
  subst q2 hw
  intro H locs ls hz hP hS hl T hT X
  have hsz : H.size = B.2.1 + w.2.2.2.2 := by rw [← hT]; exact sz_of X hz C.2.2.2.2.2.1 (by rw [hT]; exact hP)
  exact W.vret C.1 C.2.1 q1 (fun t ht hW => ⟨⟨(), rfl, trivial, by rw [ht]; exact hsz, by rw [ht]; exact hP, C.2.2.2.2.1.step hW (fun a h1 h2 => by rw [ht]; exact hS.2.1 a h1 h2) (by rw [ht]; exact hS.1)⟩, hS.F ht⟩) hS.2.2 hd C.2.2.2.2.2.2.1 T hT X
theorem good1 {y : MethodName} {cy : ByteArray} {n : Nat} {ret : Option FieldType} (h : Wk (Cond.code y cy n ret)) : GoodIn [Cond.code y cy n ret] [Cond.code y cy n ret] := fun w hw => ⟨hw, by
  rw [List.mem_singleton] at hw
  subst hw
  exact Or.inl rfl⟩
theorem one1 {w0 : Cond} (h : Wk w0) : ∀ w ∈ [w0], Wk w := fun w hw => by
  rw [List.mem_singleton] at hw
  subst hw
  exact h
/-- the words of a call: the method's code, its class's, its place -/
def LkV (own : String) (idx : Nat) (y : MethodName) (cy : ByteArray) (nLy : Nat) (ret : Option FieldType) (np : Nat) : Prop := Wk (Cond.code y cy nLy ret) ∧ Wk (Cond.initialized y.cls) ∧ Wk (Cond.instanceMethod y) ∧ Wk (Cond.selects y.cls y y) ∧ (y.cls ≠ "java/lang/invoke/MethodHandle" ∧ y.cls ≠ "java/lang/invoke/VarHandle" ∧ (parseMethodDescriptor y.desc).map (fun d => d.parameters.length) = some np) ∧ Wk (Cond.methodLink own idx y)
def LkN (own : String) (idx : Nat) (y : MethodName) (cy : ByteArray) (nLy : Nat) (ret : Option FieldType) (np : Nat) : Prop := Wk (Cond.code y cy nLy ret) ∧ Wk (Cond.initialized y.cls) ∧ Wk (Cond.instanceMethod y) ∧ Wk (Cond.selects y.cls y y) ∧ (y.cls ≠ "java/lang/invoke/MethodHandle" ∧ y.cls ≠ "java/lang/invoke/VarHandle" ∧ (parseMethodDescriptor y.desc).map (fun d => d.parameters.length) = some np) ∧ Cond.methodLinkNest own idx y "BumperBalls" ∈ nestWs
def LkS (own : String) (idx : Nat) (y : MethodName) (cy : ByteArray) (nLy : Nat) (ret : Option FieldType) (np : Nat) : Prop := Wk (Cond.code y cy nLy ret) ∧ Wk (Cond.initialized y.cls) ∧ Wk (Cond.static y) ∧ (y.cls ≠ "java/lang/invoke/MethodHandle" ∧ y.cls ≠ "java/lang/invoke/VarHandle" ∧ (parseMethodDescriptor y.desc).map (fun d => d.parameters.length) = some np) ∧ Wk (Cond.methodLink own idx y)
def LkSN (own : String) (idx : Nat) (y : MethodName) (cy : ByteArray) (nLy : Nat) (ret : Option FieldType) (np : Nat) : Prop := Wk (Cond.code y cy nLy ret) ∧ Wk (Cond.initialized y.cls) ∧ Wk (Cond.static y) ∧ (y.cls ≠ "java/lang/invoke/MethodHandle" ∧ y.cls ≠ "java/lang/invoke/VarHandle" ∧ (parseMethodDescriptor y.desc).map (fun d => d.parameters.length) = some np) ∧ Cond.methodLinkNest own idx y "BumperBalls" ∈ nestWs
theorem xr_callVI (C : Cx g own cc nL fr lo mc ms) {y : MethodName} {cy : ByteArray} {nLy fr1 lo1 mc1 ms1 idx np a kd n : Nat} {ret : Option FieldType} {r : Int32} {w1 : Wt} {st0 : List Value} (As : List Value) {Cn : String} {T : u_T} {ty0 : Nat → FieldType} (lk : LkV own idx y cy nLy ret np) (ctr : CtrI g.1 y cy nLy ret fr1 lo1 mc1 ms1 (rf g a :: As) w r w1) (hKd : Kd kd Cn T n ty0) (hCn : Cn = y.cls) (ha : ta w.2 a kd) (hnp : As.length = np) (hst : (st.map fun v => v.category).sum ≤ 8) (hs : st0 = As.reverse ++ rf g a :: st) (hd : decode cc pc = .ok (.invokevirtual idx, 3)) (hr : (fr1 + 1 ≤ fr ∧ 8 + (nLy + 11) + lo1 ≤ lo) ∧ cells + mc1 ≤ mc ∧ slots + ms1 ≤ ms) (hsz : w1.2.2.2.2 = w.2.2.2.2 + mc1) (K : XE g (cells + mc1) (slots + ms1) w1 (pc + 3) lv (.int r :: st)) : XE g cells slots w pc lv st0 := by
  obtain ⟨B, p, e, Rm, s, m, args, below, meth, c, Q⟩ := g
  subst hs
  intro H locs ls hz hP hS hl T hT X
  have hsz0 : H.size = B.2.1 + w.2.2.2.2 := by rw [← hT]; exact sz_of X hz C.2.2.2.2.2.1 (by rw [hT]; exact hP)
  obtain ⟨hx, hb, hml, hown, hSW, hbs, hlk, e1, e2, e3, e4⟩ := C
  subst e1 e2 e3 e4
  have hts : ∀ w : Cond, Wk w → w.before args s = true := fun w hw => hSW.1 w hw _
  obtain ⟨l1, l2, l3, l4, l5, l6⟩ := lk
  subst hCn
  refine va_calli (va_runV (As := As) (rest := st) (Ts := []) ⟨hx, hb, hml, hown, fun w h => by cases h⟩ ctr ⟨callB_of np (fun w hw => hts w (one1 l1 w hw)) (good1 l1) rfl rfl rfl (hts _ l2) (hts _ l6) l5 hr.1, hts _ l3, hts _ l4⟩ ⟨WD.blind, va_recv hSW.2.2.1 hP (ci := kd) (q0 := a) hKd.1 (cell_get hKd ha hP), fun U hU hW => ⟨rfl, by rw [hU]; exact hsz0, by rw [hU]; exact hP, hSW.step hW (fun a h1 h2 => by rw [hU]; exact hS.2.1 a h1 h2) (by rw [hU]; exact hS.1)⟩⟩ rfl hnp (by rw [← hml]; exact hl.1) rfl (lv_room hst) hd hr.2) hS (fun q _ h => h) (fun q h => h) (fun r9 u t H1 locs1 ht hvm hw hB hz1 hk1 hS1 => ?_) T hT X
  subst hw
  exact K H1 locs1 ls (by rw [hsz]; have := hz; omega) (by rw [← ht]; exact hB.2.1) hS1 hl
theorem xr_callNI (C : Cx g own cc nL fr lo mc ms) {y : MethodName} {cy : ByteArray} {nLy fr1 lo1 mc1 ms1 idx np a kd n : Nat} {ret : Option FieldType} {r : Int32} {w1 : Wt} {st0 : List Value} (As : List Value) {Cn : String} {T : u_T} {ty0 : Nat → FieldType} (lk : LkN own idx y cy nLy ret np) (ctr : CtrI g.1 y cy nLy ret fr1 lo1 mc1 ms1 (rf g a :: As) w r w1) (hKd : Kd kd Cn T n ty0) (hCn : Cn = y.cls) (ha : ta w.2 a kd) (hnp : As.length = np) (hst : (st.map fun v => v.category).sum ≤ 8) (hs : st0 = As.reverse ++ rf g a :: st) (hd : decode cc pc = .ok (.invokevirtual idx, 3)) (hr : (fr1 + 1 ≤ fr ∧ 8 + (nLy + 11) + lo1 ≤ lo) ∧ cells + mc1 ≤ mc ∧ slots + ms1 ≤ ms) (hsz : w1.2.2.2.2 = w.2.2.2.2 + mc1) (K : XE g (cells + mc1) (slots + ms1) w1 (pc + 3) lv (.int r :: st)) : XE g cells slots w pc lv st0 := by
  obtain ⟨B, p, e, Rm, s, m, args, below, meth, c, Q⟩ := g
  subst hs
  intro H locs ls hz hP hS hl T hT X
  have hsz0 : H.size = B.2.1 + w.2.2.2.2 := by rw [← hT]; exact sz_of X hz C.2.2.2.2.2.1 (by rw [hT]; exact hP)
  obtain ⟨hx, hb, hml, hown, hSW, hbs, hlk, e1, e2, e3, e4⟩ := C
  subst e1 e2 e3 e4
  have hts : ∀ w : Cond, Wk w → w.before args s = true := fun w hw => hSW.1 w hw _
  obtain ⟨l1, l2, l3, l4, l5, l6⟩ := lk
  subst hCn
  refine va_calli (va_runVN (As := As) (rest := st) (Ts := []) ⟨hx, hb, hml, hown, fun w h => by cases h⟩ ctr ⟨va_cnB np (fun w hw => hts w (one1 l1 w hw)) (good1 l1) rfl rfl rfl (hSW.2.1 _ l6) (hts _ l2) l5 hr.1, hts _ l3, hts _ l4⟩ ⟨WD.blind, va_recv hSW.2.2.1 hP (ci := kd) (q0 := a) hKd.1 (cell_get hKd ha hP), fun U hU hW => ⟨rfl, by rw [hU]; exact hsz0, by rw [hU]; exact hP, hSW.step hW (fun a h1 h2 => by rw [hU]; exact hS.2.1 a h1 h2) (by rw [hU]; exact hS.1)⟩⟩ rfl hnp (by rw [← hml]; exact hl.1) rfl (lv_room hst) hd hr.2) hS (fun q _ h => h) (fun q h => h) (fun r9 u t H1 locs1 ht hvm hw hB hz1 hk1 hS1 => ?_) T hT X
  subst hw
  exact K H1 locs1 ls (by rw [hsz]; have := hz; omega) (by rw [← ht]; exact hB.2.1) hS1 hl
theorem xr_callSI (C : Cx g own cc nL fr lo mc ms) {y : MethodName} {cy : ByteArray} {nLy fr1 lo1 mc1 ms1 idx np : Nat} {ret : Option FieldType} {r : Int32} {w1 : Wt} {st0 : List Value} (As : List Value) (lk : LkS own idx y cy nLy ret np) (ctr : CtrI g.1 y cy nLy ret fr1 lo1 mc1 ms1 (As) w r w1) (hnp : As.length = np) (hst : (st.map fun v => v.category).sum ≤ 8) (hs : st0 = As.reverse ++ st) (hd : decode cc pc = .ok (.invokestatic idx, 3)) (hr : (fr1 + 1 ≤ fr ∧ 8 + (nLy + 11) + lo1 ≤ lo) ∧ cells + mc1 ≤ mc ∧ slots + ms1 ≤ ms) (hsz : w1.2.2.2.2 = w.2.2.2.2 + mc1) (K : XE g (cells + mc1) (slots + ms1) w1 (pc + 3) lv (.int r :: st)) : XE g cells slots w pc lv st0 := by
  obtain ⟨B, p, e, Rm, s, m, args, below, meth, c, Q⟩ := g
  subst hs
  intro H locs ls hz hP hS hl T hT X
  have hsz0 : H.size = B.2.1 + w.2.2.2.2 := by rw [← hT]; exact sz_of X hz C.2.2.2.2.2.1 (by rw [hT]; exact hP)
  obtain ⟨hx, hb, hml, hown, hSW, hbs, hlk, e1, e2, e3, e4⟩ := C
  subst e1 e2 e3 e4
  have hts : ∀ w : Cond, Wk w → w.before args s = true := fun w hw => hSW.1 w hw _
  obtain ⟨l1, l2, l3, l4, l5⟩ := lk
  refine va_calli (va_runS (As := As) (rest := st) (Ts := []) ⟨hx, hb, hml, hown, fun w h => by cases h⟩ ctr ⟨callB_of np (fun w hw => hts w (one1 l1 w hw)) (good1 l1) rfl rfl rfl (hts _ l2) (hts _ l5) l4 hr.1, hts _ l3⟩ ⟨WD.blind, fun U hU hW => ⟨rfl, by rw [hU]; exact hsz0, by rw [hU]; exact hP, hSW.step hW (fun a h1 h2 => by rw [hU]; exact hS.2.1 a h1 h2) (by rw [hU]; exact hS.1)⟩⟩ rfl hnp (by rw [← hml]; exact hl.1) rfl (lv_room hst) hd hr.2) hS (fun q _ h => h) (fun q h => h) (fun r9 u t H1 locs1 ht hvm hw hB hz1 hk1 hS1 => ?_) T hT X
  subst hw
  exact K H1 locs1 ls (by rw [hsz]; have := hz; omega) (by rw [← ht]; exact hB.2.1) hS1 hl
theorem xr_callSNI (C : Cx g own cc nL fr lo mc ms) {y : MethodName} {cy : ByteArray} {nLy fr1 lo1 mc1 ms1 idx np : Nat} {ret : Option FieldType} {r : Int32} {w1 : Wt} {st0 : List Value} (As : List Value) (lk : LkSN own idx y cy nLy ret np) (ctr : CtrI g.1 y cy nLy ret fr1 lo1 mc1 ms1 (As) w r w1) (hnp : As.length = np) (hst : (st.map fun v => v.category).sum ≤ 8) (hs : st0 = As.reverse ++ st) (hd : decode cc pc = .ok (.invokestatic idx, 3)) (hr : (fr1 + 1 ≤ fr ∧ 8 + (nLy + 11) + lo1 ≤ lo) ∧ cells + mc1 ≤ mc ∧ slots + ms1 ≤ ms) (hsz : w1.2.2.2.2 = w.2.2.2.2 + mc1) (K : XE g (cells + mc1) (slots + ms1) w1 (pc + 3) lv (.int r :: st)) : XE g cells slots w pc lv st0 := by
  obtain ⟨B, p, e, Rm, s, m, args, below, meth, c, Q⟩ := g
  subst hs
  intro H locs ls hz hP hS hl T hT X
  have hsz0 : H.size = B.2.1 + w.2.2.2.2 := by rw [← hT]; exact sz_of X hz C.2.2.2.2.2.1 (by rw [hT]; exact hP)
  obtain ⟨hx, hb, hml, hown, hSW, hbs, hlk, e1, e2, e3, e4⟩ := C
  subst e1 e2 e3 e4
  have hts : ∀ w : Cond, Wk w → w.before args s = true := fun w hw => hSW.1 w hw _
  obtain ⟨l1, l2, l3, l4, l5⟩ := lk
  refine va_calli (va_runSN (As := As) (rest := st) (Ts := []) ⟨hx, hb, hml, hown, fun w h => by cases h⟩ ctr ⟨va_cnB np (fun w hw => hts w (one1 l1 w hw)) (good1 l1) rfl rfl rfl (hSW.2.1 _ l5) (hts _ l2) l4 hr.1, hts _ l3, trivial⟩ ⟨WD.blind, fun U hU hW => ⟨rfl, by rw [hU]; exact hsz0, by rw [hU]; exact hP, hSW.step hW (fun a h1 h2 => by rw [hU]; exact hS.2.1 a h1 h2) (by rw [hU]; exact hS.1)⟩⟩ rfl hnp (by rw [← hml]; exact hl.1) rfl (lv_room hst) hd hr.2) hS (fun q _ h => h) (fun q h => h) (fun r9 u t H1 locs1 ht hvm hw hB hz1 hk1 hS1 => ?_) T hT X
  subst hw
  exact K H1 locs1 ls (by rw [hsz]; have := hz; omega) (by rw [← ht]; exact hB.2.1) hS1 hl
theorem xr_callVV (C : Cx g own cc nL fr lo mc ms) {y : MethodName} {cy : ByteArray} {nLy fr1 lo1 mc1 ms1 idx np a kd n : Nat} {w1 : Wt} {st0 : List Value} (As : List Value) {Cn : String} {T : u_T} {ty0 : Nat → FieldType} (lk : LkV own idx y cy nLy none np) (ctr : CtrV g.1 y cy nLy fr1 lo1 mc1 ms1 (rf g a :: As) w w1) (hKd : Kd kd Cn T n ty0) (hCn : Cn = y.cls) (ha : ta w.2 a kd) (hnp : As.length = np) (hst : (st.map fun v => v.category).sum ≤ 8) (hs : st0 = As.reverse ++ rf g a :: st) (hd : decode cc pc = .ok (.invokevirtual idx, 3)) (hr : (fr1 + 1 ≤ fr ∧ 8 + (nLy + 11) + lo1 ≤ lo) ∧ cells + mc1 ≤ mc ∧ slots + ms1 ≤ ms) (hsz : w1.2.2.2.2 = w.2.2.2.2 + mc1) (K : XE g (cells + mc1) (slots + ms1) w1 (pc + 3) lv (st)) : XE g cells slots w pc lv st0 := by
  obtain ⟨B, p, e, Rm, s, m, args, below, meth, c, Q⟩ := g
  subst hs
  intro H locs ls hz hP hS hl T hT X
  have hsz0 : H.size = B.2.1 + w.2.2.2.2 := by rw [← hT]; exact sz_of X hz C.2.2.2.2.2.1 (by rw [hT]; exact hP)
  obtain ⟨hx, hb, hml, hown, hSW, hbs, hlk, e1, e2, e3, e4⟩ := C
  subst e1 e2 e3 e4
  have hts : ∀ w : Cond, Wk w → w.before args s = true := fun w hw => hSW.1 w hw _
  obtain ⟨l1, l2, l3, l4, l5, l6⟩ := lk
  subst hCn
  refine va_callv (va_runV (As := As) (rest := st) (Ts := []) ⟨hx, hb, hml, hown, fun w h => by cases h⟩ ctr ⟨callB_of np (fun w hw => hts w (one1 l1 w hw)) (good1 l1) rfl rfl rfl (hts _ l2) (hts _ l6) l5 hr.1, hts _ l3, hts _ l4⟩ ⟨WD.blind, va_recv hSW.2.2.1 hP (ci := kd) (q0 := a) hKd.1 (cell_get hKd ha hP), fun U hU hW => ⟨rfl, by rw [hU]; exact hsz0, by rw [hU]; exact hP, hSW.step hW (fun a h1 h2 => by rw [hU]; exact hS.2.1 a h1 h2) (by rw [hU]; exact hS.1)⟩⟩ rfl hnp (by rw [← hml]; exact hl.1) rfl (lv_room hst) hd hr.2) hS (fun q _ h => h) (fun q h => h) (fun u t H1 locs1 ht hvm hw hB hz1 hk1 hS1 => ?_) T hT X
  exact K H1 locs1 ls (by rw [hsz]; have := hz; omega) (by rw [← ht]; exact hB.2.1) hS1 hl
theorem xr_callNV (C : Cx g own cc nL fr lo mc ms) {y : MethodName} {cy : ByteArray} {nLy fr1 lo1 mc1 ms1 idx np a kd n : Nat} {w1 : Wt} {st0 : List Value} (As : List Value) {Cn : String} {T : u_T} {ty0 : Nat → FieldType} (lk : LkN own idx y cy nLy none np) (ctr : CtrV g.1 y cy nLy fr1 lo1 mc1 ms1 (rf g a :: As) w w1) (hKd : Kd kd Cn T n ty0) (hCn : Cn = y.cls) (ha : ta w.2 a kd) (hnp : As.length = np) (hst : (st.map fun v => v.category).sum ≤ 8) (hs : st0 = As.reverse ++ rf g a :: st) (hd : decode cc pc = .ok (.invokevirtual idx, 3)) (hr : (fr1 + 1 ≤ fr ∧ 8 + (nLy + 11) + lo1 ≤ lo) ∧ cells + mc1 ≤ mc ∧ slots + ms1 ≤ ms) (hsz : w1.2.2.2.2 = w.2.2.2.2 + mc1) (K : XE g (cells + mc1) (slots + ms1) w1 (pc + 3) lv (st)) : XE g cells slots w pc lv st0 := by
  obtain ⟨B, p, e, Rm, s, m, args, below, meth, c, Q⟩ := g
  subst hs
  intro H locs ls hz hP hS hl T hT X
  have hsz0 : H.size = B.2.1 + w.2.2.2.2 := by rw [← hT]; exact sz_of X hz C.2.2.2.2.2.1 (by rw [hT]; exact hP)
  obtain ⟨hx, hb, hml, hown, hSW, hbs, hlk, e1, e2, e3, e4⟩ := C
  subst e1 e2 e3 e4
  have hts : ∀ w : Cond, Wk w → w.before args s = true := fun w hw => hSW.1 w hw _
  obtain ⟨l1, l2, l3, l4, l5, l6⟩ := lk
  subst hCn
  refine va_callv (va_runVN (As := As) (rest := st) (Ts := []) ⟨hx, hb, hml, hown, fun w h => by cases h⟩ ctr ⟨va_cnB np (fun w hw => hts w (one1 l1 w hw)) (good1 l1) rfl rfl rfl (hSW.2.1 _ l6) (hts _ l2) l5 hr.1, hts _ l3, hts _ l4⟩ ⟨WD.blind, va_recv hSW.2.2.1 hP (ci := kd) (q0 := a) hKd.1 (cell_get hKd ha hP), fun U hU hW => ⟨rfl, by rw [hU]; exact hsz0, by rw [hU]; exact hP, hSW.step hW (fun a h1 h2 => by rw [hU]; exact hS.2.1 a h1 h2) (by rw [hU]; exact hS.1)⟩⟩ rfl hnp (by rw [← hml]; exact hl.1) rfl (lv_room hst) hd hr.2) hS (fun q _ h => h) (fun q h => h) (fun u t H1 locs1 ht hvm hw hB hz1 hk1 hS1 => ?_) T hT X
  exact K H1 locs1 ls (by rw [hsz]; have := hz; omega) (by rw [← ht]; exact hB.2.1) hS1 hl
theorem xr_callSV (C : Cx g own cc nL fr lo mc ms) {y : MethodName} {cy : ByteArray} {nLy fr1 lo1 mc1 ms1 idx np : Nat} {w1 : Wt} {st0 : List Value} (As : List Value) (lk : LkS own idx y cy nLy none np) (ctr : CtrV g.1 y cy nLy fr1 lo1 mc1 ms1 (As) w w1) (hnp : As.length = np) (hst : (st.map fun v => v.category).sum ≤ 8) (hs : st0 = As.reverse ++ st) (hd : decode cc pc = .ok (.invokestatic idx, 3)) (hr : (fr1 + 1 ≤ fr ∧ 8 + (nLy + 11) + lo1 ≤ lo) ∧ cells + mc1 ≤ mc ∧ slots + ms1 ≤ ms) (hsz : w1.2.2.2.2 = w.2.2.2.2 + mc1) (K : XE g (cells + mc1) (slots + ms1) w1 (pc + 3) lv (st)) : XE g cells slots w pc lv st0 := by
  obtain ⟨B, p, e, Rm, s, m, args, below, meth, c, Q⟩ := g
  subst hs
  intro H locs ls hz hP hS hl T hT X
  have hsz0 : H.size = B.2.1 + w.2.2.2.2 := by rw [← hT]; exact sz_of X hz C.2.2.2.2.2.1 (by rw [hT]; exact hP)
  obtain ⟨hx, hb, hml, hown, hSW, hbs, hlk, e1, e2, e3, e4⟩ := C
  subst e1 e2 e3 e4
  have hts : ∀ w : Cond, Wk w → w.before args s = true := fun w hw => hSW.1 w hw _
  obtain ⟨l1, l2, l3, l4, l5⟩ := lk
  refine va_callv (va_runS (As := As) (rest := st) (Ts := []) ⟨hx, hb, hml, hown, fun w h => by cases h⟩ ctr ⟨callB_of np (fun w hw => hts w (one1 l1 w hw)) (good1 l1) rfl rfl rfl (hts _ l2) (hts _ l5) l4 hr.1, hts _ l3⟩ ⟨WD.blind, fun U hU hW => ⟨rfl, by rw [hU]; exact hsz0, by rw [hU]; exact hP, hSW.step hW (fun a h1 h2 => by rw [hU]; exact hS.2.1 a h1 h2) (by rw [hU]; exact hS.1)⟩⟩ rfl hnp (by rw [← hml]; exact hl.1) rfl (lv_room hst) hd hr.2) hS (fun q _ h => h) (fun q h => h) (fun u t H1 locs1 ht hvm hw hB hz1 hk1 hS1 => ?_) T hT X
  exact K H1 locs1 ls (by rw [hsz]; have := hz; omega) (by rw [← ht]; exact hB.2.1) hS1 hl
theorem xr_callSNV (C : Cx g own cc nL fr lo mc ms) {y : MethodName} {cy : ByteArray} {nLy fr1 lo1 mc1 ms1 idx np : Nat} {w1 : Wt} {st0 : List Value} (As : List Value) (lk : LkSN own idx y cy nLy none np) (ctr : CtrV g.1 y cy nLy fr1 lo1 mc1 ms1 (As) w w1) (hnp : As.length = np) (hst : (st.map fun v => v.category).sum ≤ 8) (hs : st0 = As.reverse ++ st) (hd : decode cc pc = .ok (.invokestatic idx, 3)) (hr : (fr1 + 1 ≤ fr ∧ 8 + (nLy + 11) + lo1 ≤ lo) ∧ cells + mc1 ≤ mc ∧ slots + ms1 ≤ ms) (hsz : w1.2.2.2.2 = w.2.2.2.2 + mc1) (K : XE g (cells + mc1) (slots + ms1) w1 (pc + 3) lv (st)) : XE g cells slots w pc lv st0 := by
  obtain ⟨B, p, e, Rm, s, m, args, below, meth, c, Q⟩ := g
  subst hs
  intro H locs ls hz hP hS hl T hT X
  have hsz0 : H.size = B.2.1 + w.2.2.2.2 := by rw [← hT]; exact sz_of X hz C.2.2.2.2.2.1 (by rw [hT]; exact hP)
  obtain ⟨hx, hb, hml, hown, hSW, hbs, hlk, e1, e2, e3, e4⟩ := C
  subst e1 e2 e3 e4
  have hts : ∀ w : Cond, Wk w → w.before args s = true := fun w hw => hSW.1 w hw _
  obtain ⟨l1, l2, l3, l4, l5⟩ := lk
  refine va_callv (va_runSN (As := As) (rest := st) (Ts := []) ⟨hx, hb, hml, hown, fun w h => by cases h⟩ ctr ⟨va_cnB np (fun w hw => hts w (one1 l1 w hw)) (good1 l1) rfl rfl rfl (hSW.2.1 _ l5) (hts _ l2) l4 hr.1, hts _ l3, trivial⟩ ⟨WD.blind, fun U hU hW => ⟨rfl, by rw [hU]; exact hsz0, by rw [hU]; exact hP, hSW.step hW (fun a h1 h2 => by rw [hU]; exact hS.2.1 a h1 h2) (by rw [hU]; exact hS.1)⟩⟩ rfl hnp (by rw [← hml]; exact hl.1) rfl (lv_room hst) hd hr.2) hS (fun q _ h => h) (fun q h => h) (fun u t H1 locs1 ht hvm hw hB hz1 hk1 hS1 => ?_) T hT X
  exact K H1 locs1 ls (by rw [hsz]; have := hz; omega) (by rw [← ht]; exact hB.2.1) hS1 hl
end XC
/-! ===== constants, switches, Math, copies, the table NEAREST ===== -/
def mxI (x y : Int32) : Int32 := if x < y then y else x
def mnI (x y : Int32) : Int32 := if y < x then y else x
def cpy (I : Mem) (src dst : Nat) (sp dp n : Int32) : Mem := fun x => if x = dst then va_cpy (I src) (I dst) (ix sp) (ix dp) (ix n) else I x
def spn (sp n : Int32) (L : Nat) : Bool := decide (0 ≤ sp.toInt ∧ 0 ≤ n.toInt ∧ ix sp + ix n ≤ L)
abbrev nrf (g : Cfg) : Value := .ref g.1.2.2.2.2.1
section XM
variable {g : Cfg} {own : String} {cc : ByteArray} {nL fr lo mc ms cells slots pc idx : Nat} {w : Wt} {lv : List (Nat × Value)} {st : List Value}
theorem xr_ldc (C : Cx g own cc nL fr lo mc ms) {v : Int32} (hw : Wk (Cond.constant own idx v)) (hd : decode cc pc = .ok (.ldc idx, 2)) (K : XE g cells slots w (pc + 2) lv (.int v :: st)) : XE g cells slots w pc lv st := by
  obtain ⟨B, p, e, Rm, s, m, args, below, meth, c, Q⟩ := g
  intro H locs ls hz hP hS hl
  exact lv_ldc C.1 C.2.1 C.2.2.2.1 (C.2.2.2.2.1.1 _ hw _) hd (K H locs ls hz hP hS hl)
theorem xr_ldcw (C : Cx g own cc nL fr lo mc ms) {v : Int32} (hw : Wk (Cond.constant own idx v)) (hd : decode cc pc = .ok (.ldc_w idx, 3)) (K : XE g cells slots w (pc + 3) lv (.int v :: st)) : XE g cells slots w pc lv st := by
  obtain ⟨B, p, e, Rm, s, m, args, below, meth, c, Q⟩ := g
  intro H locs ls hz hP hS hl
  exact lv_ldcw C.1 C.2.1 C.2.2.2.1 (C.2.2.2.2.1.1 _ hw _) hd (K H locs ls hz hP hS hl)
theorem xr_ldc2 (C : Cx g own cc nL fr lo mc ms) {v : Int64} (hw : Wk (Cond.constantLong own idx v)) (hd : decode cc pc = .ok (.ldc2_w idx, 3)) (K : XE g cells slots w (pc + 3) lv (.long v :: st)) : XE g cells slots w pc lv st := by
  obtain ⟨B, p, e, Rm, s, m, args, below, meth, c, Q⟩ := g
  intro H locs ls hz hP hS hl
  exact lv_ldc2 C.1 C.2.1 C.2.2.2.1 (C.2.2.2.2.1.1 _ hw _) hd (K H locs ls hz hP hS hl)
/-- one row of a switch: at lo + k it goes to tgt; else on -/
theorem xr_swOut (C : Cx g own cc nL fr lo mc ms) {x : Int32} {dflt l1 h1 : Int} {offs : Array Int} {len tgt : Nat} (hd : decode cc pc = .ok (.tableswitch dflt l1 h1 offs, len)) (h : x.toInt < l1 ∨ h1 < x.toInt) (ht : (pc : Int) + dflt = (tgt : Int)) (K : XE g cells slots w tgt lv st) : XE g cells slots w pc lv (.int x :: st) := by
  obtain ⟨B, p, e, Rm, s, m, args, below, meth, c, Q⟩ := g
  intro H locs ls hz hP hS hl
  exact lv_tableOut C.1 C.2.1 hd h ht (K H locs ls hz hP hS hl)
theorem xr_swIn (C : Cx g own cc nL fr lo mc ms) {x v : Int32} {dflt l1 hh off : Int} {offs : Array Int} {len tgt : Nat} (hd : decode cc pc = .ok (.tableswitch dflt l1 hh offs, len)) (hx : x = v) (h1 : ¬ v.toInt < l1) (h2 : ¬ hh < v.toInt) (ho : offs[(v.toInt - l1).toNat]? = some off) (ht : (pc : Int) + off = (tgt : Int)) (K : XE g cells slots w tgt lv st) : XE g cells slots w pc lv (.int x :: st) := by
  subst hx
  obtain ⟨B, p, e, Rm, s, m, args, below, meth, c, Q⟩ := g
  intro H locs ls hz hP hS hl
  exact lv_tableIn C.1 C.2.1 hd h1 h2 ho ht (K H locs ls hz hP hS hl)
theorem xr_max (C : Cx g own cc nL fr lo mc ms) {x y : Int32} (w1 : Wk (Cond.methodLink own idx Lib.Math.max.name)) (w2 : Wk (Cond.static Lib.Math.max.name)) (w3 : Wk (Cond.initialized "java/lang/Math")) (w4 : Wk (Cond.code Lib.Math.max.name Lib.Math.max.code 2 (some .int))) (hf : 1 ≤ fr) (hlo : (st.map fun v => v.category).sum + 13 ≤ lo) (hc : cells ≤ mc ∧ slots ≤ ms) (hd : decode cc pc = .ok (.invokestatic idx, 3)) (K : XE g cells slots w (pc + 3) lv (.int (mxI x y) :: st)) : XE g cells slots w pc lv (.int y :: .int x :: st) := by
  obtain ⟨B, p, e, Rm, s, m, args, below, meth, c, Q⟩ := g
  intro H locs ls hz hP hS hl
  obtain ⟨hx, hb, hml, hown, hSW, hbs, hlk, e1, e2, e3, e4⟩ := C
  subst e1 e2 e3 e4
  exact va_mmax hx hb hl.1.symm hown (hSW.1 _ w1 _) (hSW.1 _ w2 _) (hSW.1 _ w3 _) (hSW.1 _ w4 _) hf hlo hc.1 hc.2 hd (K H locs ls hz hP hS hl)
theorem xr_min (C : Cx g own cc nL fr lo mc ms) {x y : Int32} (w1 : Wk (Cond.methodLink own idx Lib.Math.min.name)) (w2 : Wk (Cond.static Lib.Math.min.name)) (w3 : Wk (Cond.initialized "java/lang/Math")) (w4 : Wk (Cond.code Lib.Math.min.name Lib.Math.min.code 2 (some .int))) (hf : 1 ≤ fr) (hlo : (st.map fun v => v.category).sum + 13 ≤ lo) (hc : cells ≤ mc ∧ slots ≤ ms) (hd : decode cc pc = .ok (.invokestatic idx, 3)) (K : XE g cells slots w (pc + 3) lv (.int (mnI x y) :: st)) : XE g cells slots w pc lv (.int y :: .int x :: st) := by
  obtain ⟨B, p, e, Rm, s, m, args, below, meth, c, Q⟩ := g
  intro H locs ls hz hP hS hl
  obtain ⟨hx, hb, hml, hown, hSW, hbs, hlk, e1, e2, e3, e4⟩ := C
  subst e1 e2 e3 e4
  exact va_mmin hx hb hl.1.symm hown (hSW.1 _ w1 _) (hSW.1 _ w2 _) (hSW.1 _ w3 _) (hSW.1 _ w4 _) hf hlo hc.1 hc.2 hd (K H locs ls hz hP hS hl)
theorem i32_nn {x : Int32} (h : 0 ≤ x.toInt) : ¬ x < 0 := fun q => by
  have := Int32.lt_iff_toInt_lt.mp q
  simp at this
  omega
theorem xr_copy (C : Cx g own cc nL fr lo mc ms) {sp dp n : Int32} {a b na nb : Nat} (w1 : Wk (Cond.methodLink own idx arraycopyName)) (w2 : Wk (Cond.native arraycopyName)) (w3 : Wk (Cond.static arraycopyName)) (w4 : Wk (Cond.initialized "java/lang/System")) (ha : tA w.2 a 11 na) (hb : tA w.2 b 11 nb) (h1 : spn sp n na = true) (h2 : spn dp n nb = true) (hf : 1 ≤ fr) (hlo : (st.map fun v => v.category).sum + (nativeFrameWords "java/lang/System" "arraycopy" 5 + 11) ≤ lo) (hd : decode cc pc = .ok (.invokestatic idx, 3)) {I1 : Mem} (hI : I1 = cpy w.1 a b sp dp n) (K : XE g cells slots (I1, w.2) (pc + 3) lv st) : XE g cells slots w pc lv (.int n :: .int dp :: rf g b :: .int sp :: rf g a :: st) := by
  obtain ⟨B, p, e, Rm, s, m, args, below, meth, c, Q⟩ := g
  obtain ⟨I, R, K0, N, sz⟩ := w
  intro H locs ls hz hP hS hl
  obtain ⟨hx, hbb, hml, hown, hSW, hbs, hlk, e1, e2, e3, e4⟩ := C
  subst e1 e2 e3 e4
  obtain ⟨p1, p2, p3⟩ := of_decide_eq_true h1
  obtain ⟨q1, q2, q3⟩ := of_decide_eq_true h2
  refine va_copyi hx hbb hl.1.symm hown (hSW.1 _ w1 _) (hSW.1 _ w2 _) (hSW.1 _ w3 _) (hSW.1 _ w4 _) hSW.2.2.1 hP pool_D hS a b 0 0 (cell_int ha) (cell_int hb) rfl rfl rfl (i32_nn p1) (i32_nn q1) (i32_nn p2) p3 q3 (fun _ _ => rfl) hf hlo hd (fun H1 locs1 hP1 hD1 hS1 => ?_)
  refine K H1 locs1 ls hz ?_ hS1 hl
  rw [hI]
  rw [pool_set (I1 := cpy I a b sp dp n) (R1 := R) hb.2.1 (by rw [cellE_int hb.1 hb.2.2]; unfold cpy; rw [if_pos rfl]; rfl) (fun x hx => if_neg hx) (fun _ _ => rfl)] at hP1
  exact hP1
theorem xr_near (C : Cx g "BumperBalls" cc nL fr lo mc ms) (w1 : Wk (Cond.fieldLink "BumperBalls" idx "BumperBalls" "NEAREST" "[I")) (hd : decode cc pc = .ok (.getstatic idx, 3)) (K : XE g cells slots w (pc + 3) lv (nrf g :: st)) : XE g cells slots w pc lv st := by
  obtain ⟨B, p, e, Rm, s, m, args, below, meth, c, Q⟩ := g
  intro H locs ls hz hP hS hl
  exact va_gets C.1 C.2.1 C.2.2.2.2.1.2.2.2.1 hS C.2.2.2.1 (C.2.2.2.2.1.1 _ w1 _) (fun _ h => h) hd (K H locs ls hz hP hS hl)
theorem xr_nearAt (C : Cx g own cc nL fr lo mc ms) {i : Int32} (hi : inb i 6 = true) (hd : decode cc pc = .ok (.iaload, 1)) (K : XE g cells slots w (pc + 1) lv (.int (nearV (ix i)) :: st)) : XE g cells slots w pc lv (.int i :: nrf g :: st) := by
  obtain ⟨B, p, e, Rm, s, m, args, below, meth, c, Q⟩ := g
  intro H locs ls hz hP hS hl
  obtain ⟨f1, f2, f3, f4, f5⟩ := C.2.2.2.2.1.2.2.2
  exact va_sld C.1 C.2.1 f2 f4 (Nat.not_le.mpr f3) hS (inb_in hi) hd (K H locs ls hz hP hS hl)
theorem xr_nearLen (C : Cx g own cc nL fr lo mc ms) (hd : decode cc pc = .ok (.arraylength, 1)) (K : XE g cells slots w (pc + 1) lv (.int 6 :: st)) : XE g cells slots w pc lv (nrf g :: st) := by
  obtain ⟨B, p, e, Rm, s, m, args, below, meth, c, Q⟩ := g
  intro H locs ls hz hP hS hl
  obtain ⟨f1, f2, f3, f4, f5⟩ := C.2.2.2.2.1.2.2.2
  exact va_slen C.1 C.2.1 f2 f4 (Nat.not_le.mpr f3) hS hd (K H locs ls hz hP hS hl)
theorem xr_alen (C : Cx g own cc nL fr lo mc ms) {a n : Nat} (ha : tA w.2 a 11 n) (hd : decode cc pc = .ok (.arraylength, 1)) (K : XE g cells slots w (pc + 1) lv (.int (nI n) :: st)) : XE g cells slots w pc lv (rf g a :: st) := by
  obtain ⟨B, p, e, Rm, s, m, args, below, meth, c, Q⟩ := g
  intro H locs ls hz hP hS hl
  exact va_alen (v := nI n) C.1 C.2.1 C.2.2.2.2.1.2.2.1 hP a 0 (cell_int ha) rfl rfl hd (K H locs ls hz hP hS hl)
end XM
