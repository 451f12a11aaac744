/-! heard -/
theorem PlayR.agr {I I1 : Mem} (h : PlayR I) (h0 : ∀ x, (21 ≤ x ∧ x ≤ 78) ∨ (93 ≤ x ∧ x ≤ 110) ∨ x = 113 → I1 x = I x) (h1 : I1 0 9 = I 0 9) (h2 : I1 111 2 = I 111 2) (h3 : ∀ j, j < 123 → I1 112 j = I 112 j) : PlayR I1 := by
  obtain ⟨rd, τ, π, na, ac, im, ok, hx, hm⟩ := h
  exact ⟨rd, τ, π, na, ac, im, ok, XPl_ag hx (fun x q => h0 x (by omega)) h1, MPl_ag ok hm h3 (h0 113 (by omega)) h2⟩
def hearA (τ : Tb) (sq : Nat → Int32) (n : Nat) : Nat → Pl → Nat → Bool
  | 0, _, _ => false
  | d + 1, π, f => if π.2.2.1 = 0 then (match (stepA τ π).1 with
    | none => hearA τ sq n d (stepA τ π).2 f
    | some p => if nI (tle τ p) = sq f then (if f + 1 = n then true else hearA τ sq n d (stepA τ π).2 (f + 1)) else false) else false
theorem noS_hear (τ : Tb) (sq : Nat → Int32) (n : Nat) : ∀ (d : Nat) (π : Pl) (f : Nat), hearA τ sq n d (noS π) f = hearA τ sq n d π f
  | 0, _, _ => rfl
  | d + 1, π, f => by
    unfold hearA
    rw [noS_step, show (noS π).2.2.1 = π.2.2.1 from rfl]
    dsimp only
    split
    · cases (stepA τ π).1 with
      | none => exact noS_hear τ sq n d _ f
      | some p =>
        dsimp only
        rw [noS_hear τ sq n d _ (f + 1)]
    · rfl
theorem stepA_pin {τ : Tb} {π : Pl} {p : Nat} (h : (stepA τ π).1 = some p) : p < tn τ := by
  obtain ⟨c, w, lost, sh, score, lit, g, steps, st⟩ := π
  unfold stepA at h
  by_cases c1 : w = 2 ∧ c < 7
  · simp only [if_pos c1] at h
    cases h
  · simp only [if_neg c1] at h
    by_cases c2 : sideA c w = true
    · simp only [c2, if_true] at h
      cases h
    · simp only [c2] at h
      cases e : pinOf τ (goA c w) with
      | none => rw [e] at h; simp at h
      | some q =>
        rw [e] at h
        simp at h
        rw [← h]
        exact (pinOf_lt e).1
section
variable {τ : Tb} {π : Pl} {rd na : Nat} {ac : Nat → Pl} {im : Im} {r i n : Nat} {sq : Nat → Int32}
theorem hearX (hT : Tok τ) (hr : r < 8) (hin : i + n ≤ 40) : ∀ (d k fu : Nat) (I : Mem) (π : Pl) (f : Nat), k + d = 60 → d < fu → f < n → TabX I 21 τ → PlX I 80 π → Pok τ π → (∀ j, j < n → I (5 + r) (i + j) = sq j) → ∃ I1, fnX9_isHeard_30 fu I (nI r) (nI i) (nI n) (nI f) (nI k) = some ((if hearA τ sq n d π f then 1 else 0), I1) ∧ FrP 80 I I1
  | d, k, 0, _, _, _, _, h2, _, _, _, _, _ => absurd h2 (by omega)
  | 0, k, fu + 1, I, π, f, h1, _, _, _, _, _, _ => by
    show ∃ I1, fnX9_isHeard_30b _ I _ _ _ _ _ = _ ∧ _
    unfold fnX9_isHeard_30b fnX9_isHeard_121
    rw [if_pos (show (60 : Int32) ≤ nI k from nI_le (a := 60) (by omega) (by omega))]
    exact ⟨I, rfl, FrP.rf⟩
  | d + 1, k, fu + 1, I, π, f, h1, h2, hf, ht, hp, ok, hs => by
    show ∃ I1, fnX9_isHeard_30b _ I _ _ _ _ _ = _ ∧ _
    unfold fnX9_isHeard_30b fnX9_isHeard_121 fnX9_isHeard_115
    rw [if_neg (show ¬ (60 : Int32) ≤ nI k from nI_ge (b := 60) (by omega) (by omega)), hp.2.2.1]
    by_cases c : π.2.2.1 = 0
    · obtain ⟨I3, s1, s2, s3, s4⟩ := step_e (t := 21) (a := 80) hT ht hp ok (by omega)
      have ok3 := stepA_ok hT ok
      have ht3 := TabX_fr ht s4 (by omega)
      have hs3 : ∀ j, j < n → I3 (5 + r) (i + j) = sq j := fun j hj => by rw [s4 (5 + r) (by omega) (by omega)]; exact hs j hj
      rw [if_pos (show nI π.2.2.1 = 0 by rw [c]; rfl), s1, ob_s, s3]
      cases e : (stepA τ π).1 with
      | none =>
        have hh : hearA τ sq n (d + 1) π f = hearA τ sq n d (stepA τ π).2 f := by
          conv => lhs; unfold hearA
          rw [if_pos c, e]
        rw [hh, if_pos (show onI none = -1 from rfl), bnd_e, nI_1]
        obtain ⟨I4, r1, r2⟩ := hearX hT hr hin d (k + 1) fu I3 _ f (by omega) (by omega) hf ht3 s2 ok3 hs3
        exact ⟨I4, r1, s4.tr r2⟩
      | some p =>
        have hpn := stepA_pin e
        have h6 := hT.2.1
        have hh : hearA τ sq n (d + 1) π f = if nI (tle τ p) = sq f then (if f + 1 = n then true else hearA τ sq n d (stepA τ π).2 (f + 1)) else false := by
          conv => lhs; unfold hearA
          rw [if_pos c, e]
        rw [hh, show onI (some p) = nI p from rfl, if_neg (neg1_ne (by omega)), inb_nI (show p < 6 by omega) (by decide), ck_t, inb_nI (show r < 8 by omega) (by decide), ck_t, nI_add, inb_nI (show i + f < 40 by omega) (by decide), ck_t, ix_nI (by omega), ix_nI (by omega), ix_nI (by omega), (ht3.2.2.1 p hpn).2.2.1, show 5 + 1 * r = 5 + r by omega, hs3 f hf]
        by_cases cl : nI (tle τ p) = sq f
        · rw [if_pos cl, if_pos cl, bnd_e, nI_1]
          by_cases cn : f + 1 = n
          · rw [if_pos (show nI (f + 1) = nI n by rw [cn]), if_pos cn]
            exact ⟨I3, rfl, s4⟩
          · rw [if_neg (fun q => cn ((nI_eq (by omega) (by omega)).mp q)), if_neg cn, bnd_e, nI_1]
            obtain ⟨I4, r1, r2⟩ := hearX hT hr hin d (k + 1) fu I3 _ (f + 1) (by omega) (by omega) (by omega) ht3 s2 ok3 hs3
            exact ⟨I4, r1, s4.tr r2⟩
        · rw [if_neg cl, if_neg cl]
          exact ⟨I3, rfl, s4⟩
    · have hh : hearA τ sq n (d + 1) π f = false := by
        unfold hearA
        rw [if_neg c]
      rw [hh, if_neg (nl0 ok.2.2.1 c)]
      exact ⟨I, rfl, FrP.rf⟩
theorem hearM (hT : Tok τ) (hin : i + n ≤ 320) : ∀ (d k fu : Nat) (I : Mem) (π : Pl) (f : Nat), k + d = 60 → d < fu → f < n → TabM I τ → PlM I 123 π → Pok τ π → (∀ j, j < n → I 117 (i + j) = sq j) → ∃ I1, fnX10_isHeard_11 fu I (nI i) (nI n) (nI f) (nI k) = some ((if hearA τ sq n d π f then 1 else 0), I1) ∧ FrT I I1
  | d, k, 0, _, _, _, _, h2, _, _, _, _, _ => absurd h2 (by omega)
  | 0, k, fu + 1, I, π, f, h1, _, hf, _, _, _, _ => by
    show ∃ I1, fnX10_isHeard_11b _ I _ _ _ _ = _ ∧ _
    unfold fnX10_isHeard_11b fnX10_isHeard_86 fnX10_isHeard_97
    rw [if_pos (show (60 : Int32) ≤ nI k from nI_le (a := 60) (by omega) (by omega)), if_neg (fun q => absurd ((nI_eq (by omega) (by omega)).mp q) (by omega))]
    exact ⟨I, rfl, FrT.rf⟩
  | d + 1, k, fu + 1, I, π, f, h1, h2, hf, ht, hp, ok, hs => by
    show ∃ I1, fnX10_isHeard_11b _ I _ _ _ _ = _ ∧ _
    unfold fnX10_isHeard_11b fnX10_isHeard_86 fnX10_isHeard_97 fnX10_isHeard_80
    rw [if_neg (show ¬ (60 : Int32) ≤ nI k from nI_ge (b := 60) (by omega) (by omega)), if_neg (show ¬ nI n ≤ nI f from nI_ge (by omega) (by omega)), show inb 152 164 = true from rfl, ck_t, show I 112 (ix 152) = nI π.2.2.1 from hp.2.2.1]
    by_cases c : π.2.2.1 = 0
    · obtain ⟨I3, s1, s2, s4⟩ := stepM_e (b := 123) hT (Or.inr rfl) ht hp ok
      have ok3 := stepA_ok hT ok
      have ht3 := TabM_fr hT ht s4
      have hs3 : ∀ j, j < n → I3 117 (i + j) = sq j := fun j hj => by rw [s4.1 117 (by omega)]; exact hs j hj
      rw [if_pos (show nI π.2.2.1 = 0 by rw [c]; rfl), show (123 : Int32) = nI 123 from rfl, s1, ob_s]
      dsimp only
      cases e : (stepA τ π).1 with
      | none =>
        have hh : hearA τ sq n (d + 1) π f = hearA τ sq n d (stepA τ π).2 f := by
          conv => lhs; unfold hearA
          rw [if_pos c, e]
        rw [hh, if_pos (show onM none = -1000000 from rfl), bnd_e, nI_1]
        obtain ⟨I4, r1, r2⟩ := hearM hT hin d (k + 1) fu I3 _ f (by omega) (by omega) hf ht3 s2 ok3 hs3
        exact ⟨I4, r1, (FrT.m s4).tr r2⟩
      | some p =>
        have hpn := stepA_pin e
        have h6 := hT.2.1
        have hh : hearA τ sq n (d + 1) π f = if nI (tle τ p) = sq f then (if f + 1 = n then true else hearA τ sq n d (stepA τ π).2 (f + 1)) else false := by
          conv => lhs; unfold hearA
          rw [if_pos c, e]
        have a52 : (3 : Int32) + 4 * nI p + 2 = nI (5 + 4 * p) := by rw [i34, show (2 : Int32) = nI 2 from rfl, nI_add]; congr 1; omega
        rw [hh, show onM (some p) = nI p from rfl, if_neg (none_ne (by omega)), a52, inb_nI (show 5 + 4 * p < 164 by omega) (by decide), ck_t, nI_add, inb_nI (show i + f < 320 by omega) (by decide), ck_t, ix_nI (by omega), ix_nI (by omega), (ht3.2.2 p hpn).2.2.1, hs3 f hf]
        by_cases cl : nI (tle τ p) = sq f
        · rw [if_pos cl, if_pos cl, bnd_e, bnd_e, nI_1, nI_1]
          by_cases cn : f + 1 = n
          · rw [if_pos cn]
            obtain ⟨f2, rfl⟩ : ∃ f2, fu = f2 + 1 := ⟨fu - 1, by omega⟩
            refine ⟨I3, ?_, FrT.m s4⟩
            show fnX10_isHeard_11b _ I3 _ _ _ _ = _
            unfold fnX10_isHeard_11b fnX10_isHeard_86 fnX10_isHeard_97
            rw [if_pos (show nI n ≤ nI (f + 1) from nI_le (by omega) (by omega)), if_pos (show nI (f + 1) = nI n by rw [cn])]
            split <;> rfl
          · rw [if_neg cn]
            obtain ⟨I4, r1, r2⟩ := hearM hT hin d (k + 1) fu I3 _ (f + 1) (by omega) (by omega) (by omega) ht3 s2 ok3 hs3
            exact ⟨I4, r1, (FrT.m s4).tr r2⟩
        · rw [if_neg cl, if_neg cl]
          exact ⟨I3, rfl, FrT.m s4⟩
    · have hh : hearA τ sq n (d + 1) π f = false := by
        unfold hearA
        rw [if_neg c]
      rw [hh, if_neg (nl0 ok.2.2.1 c), if_neg (fun q => absurd ((nI_eq (by omega) (by omega)).mp q) (by omega))]
      exact ⟨I, rfl, FrT.rf⟩
/-- is all of it heard by the put -/
def fitA (τ : Tb) (π : Pl) (sq : Nat → Int32) (n h : Nat) : Bool := decide (pinOf τ (h / 4) = none) && hearA τ sq n 60 (putA h 0 π) 0
def fitsA (P : Nat → Bool) : Nat → Nat → Nat × Option Nat
  | 0, _ => (0, none)
  | d + 1, k => if P k then ((fitsA P d (k + 1)).1 + 1, some k) else fitsA P d (k + 1)
theorem fitsA_le (P : Nat → Bool) : ∀ d k, (fitsA P d k).1 ≤ d
  | 0, _ => Nat.le_refl 0
  | d + 1, k => by
    have := fitsA_le P d (k + 1)
    unfold fitsA
    split
    · show (fitsA P d (k + 1)).1 + 1 ≤ d + 1
      omega
    · omega
theorem heardX (ok : OK rd τ π na ac im) (hr : r < 8) (hin : i + n ≤ 40) (hn : 0 < n) (p4 : Int32) : ∀ (k fu : Nat) (I : Mem), k ≤ 168 → k < fu → XPl I rd τ π na ac im → (∀ j, j < n → I (5 + r) (i + j) = sq j) → ∃ I1, fnX9_heard_104 fu I (nI r) (nI i) (nI n) p4 (nI (fitsA (fitA τ π sq n) (168 - k) k).1) (onM (fitsA (fitA τ π sq n) (168 - k) k).2) (nI k - 1) = fnX9_heard_162 I1 (if p4 = 0 then nI (fitsA (fitA τ π sq n) 168 0).1 else onM (fitsA (fitA τ π sq n) 168 0).2) ∧ FrP 80 I I1
  | k, 0, _, _, h2, _, _ => absurd h2 (by omega)
  | 0, fu + 1, I, h1, _, _, _ => by
    show ∃ I1, fnX9_heard_104b _ I _ _ _ _ _ _ _ = _ ∧ _
    unfold fnX9_heard_104b
    rw [if_pos (show nI 0 - 1 < 0 by decide)]
    refine ⟨I, ?_, FrP.rf⟩
    split <;> rfl
  | k + 1, fu + 1, I, h1, h2, hx, hs => by
    show ∃ I1, fnX9_heard_104b _ I _ _ _ _ _ _ _ = _ ∧ _
    have hh : k < 168 := by omega
    have oI := onI_none (pin42 ok.2.1 (c := k / 4))
    have hd : 168 - k = (168 - (k + 1)) + 1 := by omega
    unfold fnX9_heard_104b fnX9_heard_143
    rw [nI_pred, if_neg (nI_pos (by omega)), (how_e k hh).1, pinIn_e hx.2.1 (by omega), ob_s]
    dsimp only
    simp only [bnd_e, show nI k + -1 = nI k - 1 from (Int32.sub_eq_add_neg ..).symm]
    have ih := fun (J : Mem) (hj : FrP 80 I J) => heardX ok hr hin hn p4 k fu J (by omega) (by omega) (XPl_pr hx hj) (fun j hjn => by rw [hj (5 + r) (by omega) (by omega)]; exact hs j hjn)
    by_cases c : pinOf τ (k / 4) = none
    · rw [if_pos (oI.mpr c)]
      obtain ⟨I1, I2, t1, t2, t3, t4⟩ := tryX hh ok hx
      have pok := putA_ok (τ := τ) (π := π) (sh := 0) hh (by omega) ok.2.2.1.1
      obtain ⟨I3, e1, e2⟩ := hearX (sq := sq) ok.2.1 hr hin 60 0 FU I2 _ 0 (by omega) (by unfold FU; omega) hn (TabX_fr hx.2.1 t4 (by omega)) t3 pok (fun j hj => by rw [t4 (5 + r) (by omega) (by omega)]; exact hs j hj)
      have hih : fnX9_isHeard I (nI k) (nI r) (nI i) (nI n) = some ((if hearA τ sq n 60 (putA k 0 π) 0 then 1 else 0), I3) := by
        unfold fnX9_isHeard
        rw [t1, ob_s, t2, ob_s]
        exact e1
      rw [hih, ob_s]
      dsimp only
      obtain ⟨I4, r1, r2⟩ := ih I3 (t4.tr e2)
      refine ⟨I4, ?_, (t4.tr e2).tr r2⟩
      rw [← r1, hd]
      by_cases ch : hearA τ sq n 60 (putA k 0 π) 0 = true
      · have hf : fitA τ π sq n k = true := by
          unfold fitA
          rw [ch, decide_eq_true c]
          rfl
        rw [if_pos ch, if_neg (show ¬ (1 : Int32) = 0 by decide), show fitsA (fitA τ π sq n) (168 - (k + 1) + 1) k = ((fitsA (fitA τ π sq n) (168 - (k + 1)) (k + 1)).1 + 1, some k) from if_pos hf, nI_1]
        rfl
      · have hf : ¬ fitA τ π sq n k = true := by
          unfold fitA
          rw [Bool.and_eq_true]
          exact fun q => ch q.2
        rw [if_neg ch, if_pos rfl, show fitsA (fitA τ π sq n) (168 - (k + 1) + 1) k = fitsA (fitA τ π sq n) (168 - (k + 1)) (k + 1) from if_neg hf]
    · have hf : ¬ fitA τ π sq n k = true := by
        unfold fitA
        rw [Bool.and_eq_true, decide_eq_true_iff]
        exact fun q => c q.1
      rw [if_neg (fun q => c (oI.mp q))]
      obtain ⟨I4, r1, r2⟩ := ih I FrP.rf
      refine ⟨I4, ?_, r2⟩
      rw [← r1, hd, show fitsA (fitA τ π sq n) (168 - (k + 1) + 1) k = fitsA (fitA τ π sq n) (168 - (k + 1)) (k + 1) from if_neg hf]
theorem heardM (hrd : rd = 1) (ok : OK rd τ π na ac im) (hr : r < 8) (hin : i + n ≤ 40) (hn : 0 < n) (p4 : Int32) : ∀ (d k fu m : Nat) (l : Int32) (I : Mem), k + d = 168 → m ≤ k → d < fu → MPl I rd τ π na ac im → (∀ j, j < n → I 117 (40 * r + i + j) = sq j) → ∃ I1, fnX10_heard_131 fu I (nI r) (nI i) (nI n) p4 (nI m) l (nI k) = fnX10_heard_204 I1 (if p4 = 0 then nI (m + (fitsA (fitA τ π sq n) d k).1) else if m = 0 then (match (fitsA (fitA τ π sq n) d k).2 with | some j => nI j | none => l) else l) ∧ FrT I I1
  | d, k, 0, _, _, _, _, _, h2, _, _ => absurd h2 (by omega)
  | 0, k, fu + 1, m, l, I, h1, _, _, _, _ => by
    show ∃ I1, fnX10_heard_131b _ I _ _ _ _ _ _ _ = _ ∧ _
    unfold fnX10_heard_131b
    rw [if_pos (show (168 : Int32) ≤ nI k from nI_le (a := 168) (by omega) (by omega))]
    refine ⟨I, ?_, FrT.rf⟩
    split
    · rfl
    · split <;> rfl
  | d + 1, k, fu + 1, m, l, I, h1, hmk, h2, hx, hs => by
    show ∃ I1, fnX10_heard_131b _ I _ _ _ _ _ _ _ = _ ∧ _
    have hh : k < 168 := by omega
    have oM := onM_none (pin42 ok.2.1 (c := k / 4))
    have ib : (40 : Int32) * nI r + nI i = nI (40 * r + i) := by rw [show (40 : Int32) = nI 40 from rfl, pk_mul, nI_add]
    unfold fnX10_heard_131b fnX10_heard_180 fnX10_heard_185
    rw [if_neg (show ¬ (168 : Int32) ≤ nI k from nI_ge (b := 168) (by omega) (by omega)), (how_e k hh).1, pinAt_e ok.2.1 hx.2.1 (by omega), ob_s]
    dsimp only
    simp only [bnd_e, nI_1, ib]
    have ih := fun (J : Mem) (hj : FrT I J) (m : Nat) (hm : m ≤ k + 1) (l : Int32) => heardM hrd ok hr hin hn p4 d (k + 1) fu m l J (by omega) hm (by omega) (MPl_t ok hx hj) (fun j hjn => by rw [hj.1 117 (by omega)]; exact hs j hjn)
    by_cases c : pinOf τ (k / 4) = none
    · rw [if_pos (oM.mpr c)]
      obtain ⟨I1, t1, t2, t3⟩ := tryM hh hrd hx
      have pok := putA_ok (τ := τ) (π := π) (sh := π.2.2.2.1) hh ok.2.2.1.1.2.2.2.1 ok.2.2.1.1
      obtain ⟨I3, e1, e2⟩ := hearM (sq := sq) (i := 40 * r + i) ok.2.1 (by omega) 60 0 FU I1 _ 0 (by omega) (by unfold FU; omega) hn (TabM_t ok.2.1 hx.2.1 t3) t2 pok (fun j hj => by rw [t3.1 117 (by omega)]; exact hs j hj)
      have hih : fnX10_isHeard I (nI k) (nI (40 * r + i)) (nI n) = some ((if hearA τ sq n 60 (putA k 0 π) 0 then 1 else 0), I3) := by
        unfold fnX10_isHeard
        rw [t1, ob_s, show putA k 0 π = noS (putA k π.2.2.2.1 π) from rfl, noS_hear]
        exact e1
      rw [hih, ob_s]
      dsimp only
      by_cases ch : hearA τ sq n 60 (putA k 0 π) 0 = true
      · have hf : fitA τ π sq n k = true := by
          unfold fitA
          rw [ch, decide_eq_true c]
          rfl
        rw [if_pos ch, if_neg (show ¬ (1 : Int32) = 0 by decide), show fitsA (fitA τ π sq n) (d + 1) k = ((fitsA (fitA τ π sq n) d (k + 1)).1 + 1, some k) from if_pos hf]
        by_cases cm : m = 0
        · obtain ⟨I4, r1, r2⟩ := ih I3 (t3.tr e2) (m + 1) (by omega) (nI k)
          refine ⟨I4, ?_, (t3.tr e2).tr r2⟩
          rw [if_pos (show nI m = 0 by rw [cm]; rfl), r1, if_neg (show ¬ m + 1 = 0 by omega), if_pos cm, Nat.add_assoc, Nat.add_comm 1]
        · obtain ⟨I4, r1, r2⟩ := ih I3 (t3.tr e2) (m + 1) (by omega) l
          refine ⟨I4, ?_, (t3.tr e2).tr r2⟩
          rw [if_neg (nz (by omega) cm), r1, if_neg (show ¬ m + 1 = 0 by omega), if_neg cm, Nat.add_assoc, Nat.add_comm 1]
      · have hf : ¬ fitA τ π sq n k = true := by
          unfold fitA
          rw [Bool.and_eq_true]
          exact fun q => ch q.2
        obtain ⟨I4, r1, r2⟩ := ih I3 (t3.tr e2) m (by omega) l
        refine ⟨I4, ?_, (t3.tr e2).tr r2⟩
        rw [if_neg ch, if_pos rfl, show fitsA (fitA τ π sq n) (d + 1) k = fitsA (fitA τ π sq n) d (k + 1) from if_neg hf, r1]
    · have hf : ¬ fitA τ π sq n k = true := by
        unfold fitA
        rw [Bool.and_eq_true, decide_eq_true_iff]
        exact fun q => c q.1
      obtain ⟨I4, r1, r2⟩ := ih I FrT.rf m (by omega) l
      refine ⟨I4, ?_, r2⟩
      rw [if_neg (fun q => c (oM.mp q)), show fitsA (fitA τ π sq n) (d + 1) k = fitsA (fitA τ π sq n) d (k + 1) from if_neg hf, r1]
end
