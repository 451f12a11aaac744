/-- from the entry, for every script of at most 384 ints, the law comes to its end with true -/
theorem whole_start {p : Program} {e : Env} {s : State} {m : MethodId} {below : List Frame} {meth : Method} {c : Code} (l : Launch) (hflags : l.flags = flags0) {b L : Nat} {xs : Nat → Int32} (hL : L ≤ 384) (C0 : lw_At p s m meth c b L xs) : W p l e room_1 s m #[Value.ref b] below meth c s.heap [] 0 0 (lw_Z below #[Value.ref b] s) (entryFrame m ([Value.ref b] : List Value).toArray 4) := by
  obtain ⟨hx, hb, hr, hml, hown, hts, hX, hbl, hlocks, hgv⟩ := C0
  obtain ⟨B, hB1, hB2, hSW⟩ := so_sw l hts hgv
  subst hB1
  have C : Cx (B, p, e, room_1, s, m, #[Value.ref b], below, meth, c, lw_Z below #[Value.ref b] s) "BumperBallsLaw" code 4 12 430 600000 7302250 := ⟨hx, hb, hml, hown, hSW, Nat.le_of_eq hB2, hlocks, rfl, rfl, rfl, rfl⟩
  have S : Sc (B, p, e, room_1, s, m, #[Value.ref b], below, meth, c, lw_Z below #[Value.ref b] s) b L xs := ⟨hX, hbl, by show b < B.2.1; rw [hB2]; exact hbl⟩
  have En : ∀ (cells slots : Nat) (w : Wt) (lv : List (Nat × Value)), cells ≤ 600000 → slots ≤ 7302250 → XE (B, p, e, room_1, s, m, #[Value.ref b], below, meth, c, lw_Z below #[Value.ref b] s) cells slots w 971 lv [.int 1] := by
    intro cells slots w lv hc hs H locs ls hz hP hS hl
    refine va_forget (fun q hq => by have := hS.2.2 q hq; rw [hB2] at this; exact this) ?_
    refine W.widen (k := 600000) (n := 7302250) hc hs ?_
    exact lw_ret hx hb hr hlocks dL_971
  have hl := lv_entry ([.ref b]) (n := 4) (Nat.le_of_ble_eq_true rfl)
  rw [lg_entry_eq]
  generalize (lg_sl ([.ref b]) ++ List.replicate (4 - (lg_sl ([.ref b])).length) Slot.unset).toArray = ls at hl ⊢
  have hl : lv_has ls c.maxLocals [(0, .ref b)] := by rw [hml]; exact hl
  refine law_entry C S hL En w9_e (of_decide_eq_true w9_sz) wA_e (of_decide_eq_true zs) wA_inv s.heap [] ls ?_ (fun k q h => ?_) va_S.rf hl
  · show s.heap.size + 0 = B.2.1 + 0
    rw [hB2]
  · have h2 : ([] : va_W)[k]? = some q := h
    simp at h2
