/-! ===== THE WORLD: memory by relative addresses, cells of kinds 0..14, one judgement XE ===== -/
abbrev Mem : Type := Nat → Nat → Int32
abbrev Rfs : Type := Nat → Nat → Option Nat
abbrev Shp : Type := Rfs × (Nat → Nat) × (Nat → Nat) × Nat
abbrev Wt : Type := Mem × Shp
def up2 {α : Type} (f : Nat → Nat → α) (a k : Nat) (v : α) : Nat → Nat → α := fun x => if x = a then (fun y => if y = k then v else f a y) else f x
theorem up2_ne {α : Type} {f : Nat → Nat → α} {a k x : Nat} {v : α} (h : x ≠ a) : up2 f a k v x = f x := if_neg h
theorem up2_eq {α : Type} {f : Nat → Nat → α} {a k : Nat} {v : α} : up2 f a k v a = fun y => if y = k then v else f a y := if_pos rfl
def nsl (k : Nat) : Nat := [3, 6, 3, 3, 10, 3, 4, 7, 10, 12, 22].getD k 0
def slR (k j : Nat) : Bool := ([[0], [0], [0, 1], [0, 1], [8], [0, 1, 2], [0, 1, 2], [2, 3, 4, 5, 6], [0, 2], [0, 1, 2, 3, 4, 5, 6, 7, 8], [0, 1, 3, 7, 8, 9, 10, 16, 20, 21]].getD k []).contains j
def rfv (b : Nat) (r : Option Nat) : Value := va_rf (r.map (fun x => b + x))
def slV (b : Nat) (I : Mem) (R : Rfs) (k a j : Nat) : Value := if slR k j then rfv b (R a j) else .int (I a j)
def cellE (b : Nat) (cs : Nat → ClassId) (I : Mem) (R : Rfs) (K N : Nat → Nat) (a : Nat) : va_E :=
  if K a < 11 then .inr (K a, (List.range (nsl (K a))).map (slV b I R (K a) a))
  else if K a = 11 then .inl (cs 11, N a, .inl (I a))
  else .inl (cs (K a), N a, .inr (.inr (.inr (.inr (fun j => (R a j).map (fun x => b + x))))))
def pool (b : Nat) (cs : Nat → ClassId) (w : Wt) : va_W := (List.range w.2.2.2.2).map (fun a => (b + a, cellE b cs w.1 w.2.1 w.2.2.1 w.2.2.2.1 a))
theorem pool_get {b : Nat} {cs : Nat → ClassId} {w : Wt} {a : Nat} (h : a < w.2.2.2.2) : (pool b cs w)[a]? = some (b + a, cellE b cs w.1 w.2.1 w.2.2.1 w.2.2.2.1 a) := by
  unfold pool
  rw [List.getElem?_map, List.getElem?_range h]
  rfl
theorem pool_len {b : Nat} {cs : Nat → ClassId} {w : Wt} : (pool b cs w).length = w.2.2.2.2 := by simp [pool]
theorem pool_inv {b : Nat} {cs : Nat → ClassId} {w : Wt} {k : Nat} {q : Nat × va_E} (h : (pool b cs w)[k]? = some q) : k < w.2.2.2.2 ∧ q.1 = b + k := by
  have hk : k < (pool b cs w).length := (List.getElem?_eq_some_iff.mp h).1
  rw [pool_len] at hk
  rw [pool_get hk] at h
  cases h
  exact ⟨hk, rfl⟩
theorem pool_D {b : Nat} {cs : Nat → ClassId} {w : Wt} : va_D (fun q => b ≤ q) (pool b cs w) := by
  refine ⟨fun i j p q hi hj e => ?_, fun k q hk => ?_⟩
  · have h1 := (pool_inv hi).2
    have h2 := (pool_inv hj).2
    omega
  · have h1 := (pool_inv hk).2
    show b ≤ q.1
    omega
theorem pool_set {b : Nat} {cs : Nat → ClassId} {I I1 : Mem} {R R1 : Rfs} {K N : Nat → Nat} {sz a : Nat} {e : va_E} (ha : a < sz) (he : cellE b cs I1 R1 K N a = e) (hI : ∀ x, x ≠ a → I1 x = I x) (hR : ∀ x, x ≠ a → R1 x = R x) : (pool b cs (I, R, K, N, sz)).set a (b + a, e) = pool b cs (I1, R1, K, N, sz) := by
  apply List.ext_getElem?
  intro k
  by_cases hk : k = a
  · subst hk
    rw [List.getElem?_set_self (by rw [pool_len]; exact ha), pool_get (w := (I1, R1, K, N, sz)) ha, ← he]
  · rw [List.getElem?_set_ne (fun h => hk h.symm)]
    by_cases hs : k < sz
    · rw [pool_get (w := (I, R, K, N, sz)) hs, pool_get (w := (I1, R1, K, N, sz)) hs]
      have h1 := hI k hk
      have h2 := hR k hk
      simp only [cellE, slV, h1, h2]
      rw [show slV b I1 R1 (K k) k = slV b I R (K k) k from funext fun j => by simp only [slV, h1, h2]]
    · rw [List.getElem?_eq_none (by rw [pool_len]; exact Nat.le_of_not_lt hs), List.getElem?_eq_none (by rw [pool_len]; exact Nat.le_of_not_lt hs)]
theorem cellE_obj {b : Nat} {cs : Nat → ClassId} {I : Mem} {R : Rfs} {K N : Nat → Nat} {a k : Nat} (h : K a = k) (hk : k < 11) : cellE b cs I R K N a = .inr (k, (List.range (nsl k)).map (slV b I R k a)) := by
  subst h
  exact if_pos hk
theorem cellE_int {b : Nat} {cs : Nat → ClassId} {I : Mem} {R : Rfs} {K N : Nat → Nat} {a n : Nat} (h : K a = 11) (hn : N a = n) : cellE b cs I R K N a = .inl (cs 11, n, .inl (I a)) := by
  subst hn
  unfold cellE
  rw [h]
  rfl
theorem cellE_ref {b : Nat} {cs : Nat → ClassId} {I : Mem} {R : Rfs} {K N : Nat → Nat} {a k n : Nat} (h : K a = k) (hk : 11 < k) (hn : N a = n) : cellE b cs I R K N a = .inl (cs k, n, .inr (.inr (.inr (.inr (fun j => (R a j).map (fun x => b + x)))))) := by
  subst hn
  subst h
  unfold cellE
  rw [if_neg (by omega), if_neg (by omega)]

def nestWs : List Cond := [
  .fieldLinkNest "BumperBalls" 110 "BumperBalls$Rows" "lanes" "[I" "BumperBalls",
  .fieldLinkNest "BumperBalls" 114 "BumperBalls$Rows" "items" "[[I" "BumperBalls",
  .fieldLinkNest "BumperBalls" 127 "BumperBalls$Tape" "length" "I" "BumperBalls",
  .fieldLinkNest "BumperBalls" 138 "BumperBalls$Tape" "fault" "I" "BumperBalls",
  .fieldLinkNest "BumperBalls" 142 "BumperBalls$Tape" "start" "I" "BumperBalls",
  .fieldLinkNest "BumperBalls" 145 "BumperBalls$Tape" "draft" "LBumperBalls$Table;" "BumperBalls",
  .fieldLinkNest "BumperBalls" 152 "BumperBalls$Tape" "ballCell" "I" "BumperBalls",
  .fieldLinkNest "BumperBalls" 155 "BumperBalls$Tape" "ballWay" "I" "BumperBalls",
  .fieldLinkNest "BumperBalls" 165 "BumperBalls$Table" "pins" "I" "BumperBalls",
  .fieldLinkNest "BumperBalls" 169 "BumperBalls$Play" "lost" "Z" "BumperBalls",
  .fieldLinkNest "BumperBalls" 172 "BumperBalls$Play" "steps" "I" "BumperBalls",
  .fieldLinkNest "BumperBalls" 182 "BumperBalls$Table" "tilt" "I" "BumperBalls",
  .fieldLinkNest "BumperBalls" 189 "BumperBalls$Play" "shakes" "I" "BumperBalls",
  .fieldLinkNest "BumperBalls" 192 "BumperBalls$Play" "cell" "I" "BumperBalls",
  .fieldLinkNest "BumperBalls" 195 "BumperBalls$Play" "way" "I" "BumperBalls",
  .fieldLinkNest "BumperBalls" 204 "BumperBalls$Acts" "size" "I" "BumperBalls",
  .fieldLinkNest "BumperBalls" 210 "BumperBalls$Play" "score" "I" "BumperBalls",
  .fieldLinkNest "BumperBalls" 213 "BumperBalls$Play" "lit" "I" "BumperBalls",
  .fieldLinkNest "BumperBalls" 219 "BumperBalls$Table" "cells" "[I" "BumperBalls",
  .fieldLinkNest "BumperBalls" 222 "BumperBalls$Table" "letters" "[I" "BumperBalls",
  .fieldLinkNest "BumperBalls" 225 "BumperBalls$Table" "pays" "[I" "BumperBalls",
  .fieldLinkNest "BumperBalls" 228 "BumperBalls$Play" "struck" "[I" "BumperBalls",
  .fieldLinkNest "BumperBalls" 256 "BumperBalls$Search" "fewestStriking" "I" "BumperBalls",
  .fieldLinkNest "BumperBalls" 272 "BumperBalls$Image" "isKept" "Z" "BumperBalls",
  .fieldLinkNest "BumperBalls" 275 "BumperBalls$Image" "table" "LBumperBalls$Table;" "BumperBalls",
  .fieldLinkNest "BumperBalls" 276 "BumperBalls$Image" "play" "LBumperBalls$Play;" "BumperBalls",
  .fieldLinkNest "BumperBalls" 277 "BumperBalls$Table" "kinds" "[I" "BumperBalls",
  .fieldLinkNest "BumperBalls" 292 "BumperBalls$Asks" "length" "I" "BumperBalls",
  .fieldLinkNest "BumperBalls" 293 "BumperBalls$Asks" "bodies" "[I" "BumperBalls",
  .fieldLinkNest "BumperBalls" 307 "BumperBalls$Play" "knocked" "I" "BumperBalls",
  .fieldLinkNest "BumperBalls$Asks" 31 "BumperBalls$Table" "kinds" "[I" "BumperBalls",
  .fieldLinkNest "BumperBalls$Asks" 36 "BumperBalls$Table" "pays" "[I" "BumperBalls",
  .fieldLinkNest "BumperBalls$Asks" 38 "BumperBalls$Play" "struck" "[I" "BumperBalls",
  .fieldLinkNest "BumperBalls$Layer" 22 "BumperBalls$Play" "gates" "I" "BumperBalls",
  .fieldLinkNest "BumperBalls$Layer" 27 "BumperBalls$Play" "cell" "I" "BumperBalls",
  .fieldLinkNest "BumperBalls$Layer" 30 "BumperBalls$Play" "way" "I" "BumperBalls",
  .fieldLinkNest "BumperBalls$Play" 86 "BumperBalls$Table" "letters" "[I" "BumperBalls",
  .fieldLinkNest "BumperBalls$Play" 89 "BumperBalls$Table" "pays" "[I" "BumperBalls",
  .fieldLinkNest "BumperBalls$Play" 92 "BumperBalls$Table" "kinds" "[I" "BumperBalls",
  .fieldLinkNest "BumperBalls$Search" 35 "BumperBalls$Table" "pins" "I" "BumperBalls",
  .fieldLinkNest "BumperBalls$Search" 50 "BumperBalls$Layer" "size" "I" "BumperBalls",
  .fieldLinkNest "BumperBalls$Search" 53 "BumperBalls$Layer" "places" "[I" "BumperBalls",
  .fieldLinkNest "BumperBalls$Search" 57 "BumperBalls$Layer" "costs" "[I" "BumperBalls",
  .fieldLinkNest "BumperBalls$Search" 74 "BumperBalls$Play" "gates" "I" "BumperBalls",
  .fieldLinkNest "BumperBalls$Search" 84 "BumperBalls$Play" "knocked" "I" "BumperBalls",
  .fieldLinkNest "BumperBalls$Search" 87 "BumperBalls$Table" "letters" "[I" "BumperBalls",
  .fieldLinkNest "BumperBalls$Search" 93 "BumperBalls$Play" "lost" "Z" "BumperBalls",
  .fieldLinkNest "BumperBalls$Tape" 78 "BumperBalls$Table" "tilt" "I" "BumperBalls",
  .fieldLinkNest "BumperBalls$Tape" 84 "BumperBalls$Table" "pins" "I" "BumperBalls",
  .methodLinkNest "BumperBalls" 102 ⟨"BumperBalls$Rows", "hasPlaces", "(III)Z"⟩ "BumperBalls",
  .methodLinkNest "BumperBalls" 106 ⟨"BumperBalls$Rows", "write", "(III)I"⟩ "BumperBalls",
  .methodLinkNest "BumperBalls" 124 ⟨"BumperBalls$Rows", "remove", "(I)I"⟩ "BumperBalls",
  .methodLinkNest "BumperBalls" 131 ⟨"BumperBalls$Tape", "append", "(JI)V"⟩ "BumperBalls",
  .methodLinkNest "BumperBalls" 135 ⟨"BumperBalls$Tape", "readAll", "()V"⟩ "BumperBalls",
  .methodLinkNest "BumperBalls" 148 ⟨"BumperBalls$Table", "become", "(LBumperBalls$Table;)V"⟩ "BumperBalls",
  .methodLinkNest "BumperBalls" 158 ⟨"BumperBalls$Play", "begin", "(II)V"⟩ "BumperBalls",
  .methodLinkNest "BumperBalls" 162 ⟨"BumperBalls$Acts", "forget", "()V"⟩ "BumperBalls",
  .methodLinkNest "BumperBalls" 175 ⟨"BumperBalls$Acts", "keep", "(LBumperBalls$Play;)V"⟩ "BumperBalls",
  .methodLinkNest "BumperBalls" 179 ⟨"BumperBalls$Play", "step", "(LBumperBalls$Table;)V"⟩ "BumperBalls",
  .methodLinkNest "BumperBalls" 18 ⟨"BumperBalls$Tape", "<init>", "()V"⟩ "BumperBalls",
  .methodLinkNest "BumperBalls" 185 ⟨"BumperBalls$Play", "shake", "(I)V"⟩ "BumperBalls",
  .methodLinkNest "BumperBalls" 198 ⟨"BumperBalls$Table", "pinIn", "(I)I"⟩ "BumperBalls",
  .methodLinkNest "BumperBalls" 201 ⟨"BumperBalls$Play", "place", "(II)V"⟩ "BumperBalls",
  .methodLinkNest "BumperBalls" 207 ⟨"BumperBalls$Acts", "takeBack", "(LBumperBalls$Play;)V"⟩ "BumperBalls",
  .methodLinkNest "BumperBalls" 231 ⟨"BumperBalls$Play", "isOpen", "(I)Z"⟩ "BumperBalls",
  .methodLinkNest "BumperBalls" 234 ⟨"BumperBalls$Play", "become", "(LBumperBalls$Play;)V"⟩ "BumperBalls",
  .methodLinkNest "BumperBalls" 236 ⟨"BumperBalls$Play", "run", "(LBumperBalls$Table;I)V"⟩ "BumperBalls",
  .methodLinkNest "BumperBalls" 25 ⟨"BumperBalls$Table", "<init>", "()V"⟩ "BumperBalls",
  .methodLinkNest "BumperBalls" 252 ⟨"BumperBalls$Search", "walk", "(LBumperBalls$Table;LBumperBalls$Play;II)V"⟩ "BumperBalls",
  .methodLinkNest "BumperBalls" 259 ⟨"BumperBalls$Search", "fewestStaying", "()I"⟩ "BumperBalls",
  .methodLinkNest "BumperBalls" 262 ⟨"BumperBalls$Rows", "tellsLetters", "(III)Z"⟩ "BumperBalls",
  .methodLinkNest "BumperBalls" 269 ⟨"BumperBalls$Image", "keep", "(LBumperBalls$Table;LBumperBalls$Play;)V"⟩ "BumperBalls",
  .methodLinkNest "BumperBalls" 283 ⟨"BumperBalls$Asks", "begin", "(ILBumperBalls$Table;LBumperBalls$Play;)V"⟩ "BumperBalls",
  .methodLinkNest "BumperBalls" 286 ⟨"BumperBalls$Asks", "sizeAsked", "()I"⟩ "BumperBalls",
  .methodLinkNest "BumperBalls" 289 ⟨"BumperBalls$Asks", "markAsked", "()I"⟩ "BumperBalls",
  .methodLinkNest "BumperBalls" 296 ⟨"BumperBalls$Rows", "there", "()I"⟩ "BumperBalls",
  .methodLinkNest "BumperBalls" 303 ⟨"BumperBalls$Play", "isAs", "(LBumperBalls$Play;)Z"⟩ "BumperBalls",
  .methodLinkNest "BumperBalls" 32 ⟨"BumperBalls$Play", "<init>", "()V"⟩ "BumperBalls",
  .methodLinkNest "BumperBalls" 39 ⟨"BumperBalls$Acts", "<init>", "()V"⟩ "BumperBalls",
  .methodLinkNest "BumperBalls" 55 ⟨"BumperBalls$Search", "<init>", "()V"⟩ "BumperBalls",
  .methodLinkNest "BumperBalls" 62 ⟨"BumperBalls$Asks", "<init>", "()V"⟩ "BumperBalls",
  .methodLinkNest "BumperBalls" 78 ⟨"BumperBalls$Image", "<init>", "()V"⟩ "BumperBalls",
  .methodLinkNest "BumperBalls" 9 ⟨"BumperBalls$Rows", "<init>", "()V"⟩ "BumperBalls",
  .methodLinkNest "BumperBalls" 92 ⟨"BumperBalls$Rows", "make", "(III)V"⟩ "BumperBalls",
  .methodLinkNest "BumperBalls" 99 ⟨"BumperBalls$Rows", "isMissing", "(I)Z"⟩ "BumperBalls",
  .methodLinkNest "BumperBalls$Acts" 24 ⟨"BumperBalls$Play", "<init>", "()V"⟩ "BumperBalls",
  .methodLinkNest "BumperBalls$Acts" 25 ⟨"BumperBalls$Play", "become", "(LBumperBalls$Play;)V"⟩ "BumperBalls",
  .methodLinkNest "BumperBalls$Asks" 42 ⟨"BumperBalls", "isOfKind", "(II)Z"⟩ "BumperBalls",
  .methodLinkNest "BumperBalls$Image" 18 ⟨"BumperBalls$Play", "<init>", "()V"⟩ "BumperBalls",
  .methodLinkNest "BumperBalls$Image" 27 ⟨"BumperBalls$Table", "become", "(LBumperBalls$Table;)V"⟩ "BumperBalls",
  .methodLinkNest "BumperBalls$Image" 31 ⟨"BumperBalls$Play", "become", "(LBumperBalls$Play;)V"⟩ "BumperBalls",
  .methodLinkNest "BumperBalls$Image" 9 ⟨"BumperBalls$Table", "<init>", "()V"⟩ "BumperBalls",
  .methodLinkNest "BumperBalls$Layer" 33 ⟨"BumperBalls", "isUpTo", "(II)Z"⟩ "BumperBalls",
  .methodLinkNest "BumperBalls$Play" 72 ⟨"BumperBalls$Table", "pinIn", "(I)I"⟩ "BumperBalls",
  .methodLinkNest "BumperBalls$Play" 82 ⟨"BumperBalls", "isUpTo", "(II)Z"⟩ "BumperBalls",
  .methodLinkNest "BumperBalls$Rows" 23 ⟨"BumperBalls", "isUpTo", "(II)Z"⟩ "BumperBalls",
  .methodLinkNest "BumperBalls$Search" 11 ⟨"BumperBalls$Layer", "<init>", "(I)V"⟩ "BumperBalls",
  .methodLinkNest "BumperBalls$Search" 25 ⟨"BumperBalls$Play", "<init>", "()V"⟩ "BumperBalls",
  .methodLinkNest "BumperBalls$Search" 43 ⟨"BumperBalls$Layer", "clear", "()V"⟩ "BumperBalls",
  .methodLinkNest "BumperBalls$Search" 46 ⟨"BumperBalls$Layer", "reach", "(LBumperBalls$Play;I)V"⟩ "BumperBalls",
  .methodLinkNest "BumperBalls$Search" 70 ⟨"BumperBalls$Play", "place", "(II)V"⟩ "BumperBalls",
  .methodLinkNest "BumperBalls$Search" 77 ⟨"BumperBalls$Play", "turn", "(I)V"⟩ "BumperBalls",
  .methodLinkNest "BumperBalls$Search" 80 ⟨"BumperBalls$Play", "step", "(LBumperBalls$Table;)V"⟩ "BumperBalls",
  .methodLinkNest "BumperBalls$Table" 37 ⟨"BumperBalls", "isUpTo", "(II)Z"⟩ "BumperBalls",
  .methodLinkNest "BumperBalls$Tape" 110 ⟨"BumperBalls$Table", "pinIn", "(I)I"⟩ "BumperBalls",
  .methodLinkNest "BumperBalls$Tape" 21 ⟨"BumperBalls$Table", "<init>", "()V"⟩ "BumperBalls",
  .methodLinkNest "BumperBalls$Tape" 47 ⟨"BumperBalls$Table", "clear", "()V"⟩ "BumperBalls",
  .methodLinkNest "BumperBalls$Tape" 94 ⟨"BumperBalls$Table", "addPin", "(IIII)V"⟩ "BumperBalls"]
def isNest : Cond → Bool
  | .methodLinkNest .. => true
  | .fieldLinkNest .. => true
  | _ => false
theorem nest_all : nestWs.all isNest = true := by decide +kernel
theorem nest_ok : nestWs.all (fun w => decide (w ∈ lw_tbl)) = true := by decide +kernel
/-- the texts of the class Tape: place in the pool, text -/
def stIx (i : Nat) : Nat := [56, 72, 98, 100, 102, 104, 106, 108].getD i 0
def stTx (i : Nat) : String := ["pin", "law", "ball", "bumper", "lefter", "righter", "lamp", "gate"].getD i ""
def stLen : List Nat := [3, 3, 4, 6, 6, 7, 4, 4]
def stByt : List (List Int32) := [[112, 105, 110], [108, 97, 119], [98, 97, 108, 108], [98, 117, 109, 112, 101, 114], [108, 101, 102, 116, 101, 114], [114, 105, 103, 104, 116, 101, 114], [108, 97, 109, 112], [103, 97, 116, 101]]
def nearV (j : Nat) : Int32 := [-1, 0, 1, 1, 0, 4].getD j 0
abbrev XP : Type := Nat × (Nat → Nat) × (Nat → Nat)
def tysC (cs : Nat → ClassId) : List (ClassId × FieldType) := [(cs 11, .int), (cs 12, .object "BumperBalls$Image"), (cs 13, .object "BumperBalls$Play"), (cs 14, .array .int)]
/-- what lies outside: the table NEAREST, the texts, two statics of the JDK's -/
def AOa (U : State) : Prop := ∀ U1 : State, U.vm.Alike U1.vm → (Cond.arrayOver (.array .int)).before #[] U1 = true
theorem AOa.moved {u U : State} (hvm : u.vm.Alike U.vm) (h : AOa u) : AOa U := fun U1 h1 => h U1 (hvm.trans h1)
def Ext (b : Nat) (xp : XP) (U : State) (H : Heap) : Prop :=
  va_Z "BumperBalls" "NEAREST" "[I" (.ref xp.1) (fun q => b ≤ q) U H ∧ va_X xp.1 6 nearV U H ∧ xp.1 < b ∧ xp.1 < H.size ∧
  vk_S 8 stLen stByt xp.2.1 xp.2.2 (fun q => b ≤ q) U H ∧ (∀ i : Nat, i < 8 → vk_R RX8 (stIx i) (stTx i) (xp.2.1 i) U) ∧
  va_Z "java/lang/String" "COMPACT_STRINGS" "Z" (.int 1) (fun q => b ≤ q) U H ∧ va_Zq "jdk/internal/util/Preconditions" "SIOOBE_FORMATTER" "Ljava/util/function/BiFunction;" (fun q => b ≤ q) U H ∧
  va_AO "BumperBalls$Play" U ∧ va_AO "BumperBalls$Image" U ∧ AOa U
abbrev Bs : Type := Launch × Nat × va_G × (Nat → ClassId) × XP
/-- the tables' words, the classes, what lies outside -/
def SW (B : Bs) (U : State) : Prop := (∀ w : Cond, Wk w → ∀ a' : Array Value, w.before a' U = true) ∧ (∀ w ∈ nestWs, va_Nw w U) ∧ va_K B.2.2.1 vwCl (tysC B.2.2.2.1) U ∧ Ext B.2.1 B.2.2.2.2 U U.heap
theorem SW.step {B : Bs} {s U : State} (h : SW B s) (hW : s.WarmedH U.vm) (hk : ∀ a : Nat, a < s.heap.size → ¬ B.2.1 ≤ a → U.heap[a]? = s.heap[a]?) (hz : s.heap.size ≤ U.heap.size) : SW B U := by
  obtain ⟨h1, h2, h3, e1, e2, e3, e4, e5, e6, e7, e8, e9, e10, e11⟩ := h
  have hvm := hW.alike
  refine ⟨fun w hw a' => ?_, fun w hw => ?_, va_K.moved hvm h3, (e1.moved hvm).kept hk, ?_, e3, by omega, (e5.moved hvm).kept hk, fun i hi => (e6 i hi).warm hW, (e7.moved hvm).kept hk, (e8.moved hvm).kept hk, e9.moved hvm, e10.moved hvm, e11.moved hvm⟩
  · exact word_at hW (good_of_word hw.2) (h1 w hw #[])
  · have hn := List.all_eq_true.mp nest_all w hw
    have hw2 := h2 w hw
    cases w <;> first | (simp [isNest] at hn; done) | exact va_Nw.warmM hW hw2 | exact va_Nw.warmF hW hw2
  · exact (e2.moved hvm).kept (hk _ e4 (Nat.not_le.mpr e3))
def WD (B : Bs) (w : Wt) (U : State) : Prop := U.heap.size = B.2.1 + w.2.2.2.2 ∧ va_P B.2.2.1 vwCl (pool B.2.1 B.2.2.2.1 w) U.heap ∧ SW B U
abbrev Cfg : Type := Bs × Program × Env × Room × State × MethodId × Array Value × List Frame × Method × Code × (State → Prop)
abbrev rf (g : Cfg) (a : Nat) : Value := .ref (g.1.2.1 + a)
def Cx (g : Cfg) (own : String) (cc : ByteArray) (nL fr lo mc ms : Nat) : Prop := match g with
  | (B, p, _, Rm, s, m, _, _, meth, c, _) => p.tables.exec = Jvm.exec ∧ c.code = cc ∧ c.maxLocals = nL ∧ s.vm.findClass own = some m.cls ∧ SW B s ∧ B.2.1 ≤ s.heap.size ∧ meth.locks = false ∧ Rm.frames = fr ∧ Rm.locals = lo ∧ Rm.cells = mc ∧ Rm.slots = ms
def XE (g : Cfg) (cells slots : Nat) (w : Wt) (pc : Nat) (lv : List (Nat × Value)) (st : List Value) : Prop := match g with
  | (B, p, e, Rm, s, m, args, below, meth, c, Q) => ∀ (H : Heap) (locs : List Loc) (ls : Array Slot), s.heap.size + cells = B.2.1 + w.2.2.2.2 → va_P B.2.2.1 vwCl (pool B.2.1 B.2.2.2.1 w) H → va_S (fun q => B.2.1 ≤ q) s.heap H locs → lv_has ls c.maxLocals lv → W p B.1 e Rm s m args below meth c H locs cells slots Q (F0 m pc ls st)
/-! the pieces of a method's function -/
def bnd {α β : Type} (e : α) (k : α → Option β) : Option β := k e
theorem bnd_x {α β : Type} {e : α} {k : α → Option β} {o : β} (h : bnd e k = some o) : ∃ x, x = e ∧ k x = some o := ⟨e, rfl, h⟩
def ob {α β : Type} (o : Option α) (k : α → Option β) : Option β := match o with
  | some x => k x
  | none => none
theorem ob_x {α β : Type} {o : Option α} {k : α → Option β} {y : β} (h : ob o k = some y) : ∃ x, o = some x ∧ k x = some y := by
  cases o with
  | none => cases h
  | some x => exact ⟨x, rfl, h⟩
def ck {β : Type} (c : Bool) (k : Option β) : Option β := match c with
  | true => k
  | false => none
theorem ck_x {β : Type} {c : Bool} {k : Option β} {y : β} (h : ck c k = some y) : c = true ∧ k = some y := by
  cases c with
  | false => cases h
  | true => exact ⟨rfl, h⟩
def inb (i : Int32) (n : Nat) : Bool := decide (0 ≤ i.toInt ∧ i.toInt < n)
theorem inb_in {i : Int32} {n : Nat} (h : inb i n = true) : vp_in i n := vp_in_iff.mpr (of_decide_eq_true h)
def ix (i : Int32) : Nat := i.toNatClampNeg
def irm (x y : Int32) : Int32 := x - x / y * y
def ta (h : Shp) (a k : Nat) : Prop := h.2.1 a = k ∧ a < h.2.2.2
def tA (h : Shp) (a k n : Nat) : Prop := h.2.1 a = k ∧ a < h.2.2.2 ∧ h.2.2.1 a = n

theorem xr_iadd {g : Cfg} {own : String} {cc : ByteArray} {nL fr lo mc ms cells slots pc : Nat} {w : Wt} {lv : List (Nat × Value)} {st : List Value} (C : Cx g own cc nL fr lo mc ms) {x y : Int32} (hd : decode cc pc = .ok (.iadd, 1))  (K : XE g cells slots w (pc + 1) lv (.int (x + y) :: st)) : XE g cells slots w pc lv (.int y :: .int x :: st) := by
  obtain ⟨B, p, e, Rm, s, m, args, below, meth, c, Q⟩ := g
  intro H locs ls hz hP hS hl
  exact lv_iadd C.1 C.2.1 hd (K H locs ls hz hP hS hl)
theorem xr_isub {g : Cfg} {own : String} {cc : ByteArray} {nL fr lo mc ms cells slots pc : Nat} {w : Wt} {lv : List (Nat × Value)} {st : List Value} (C : Cx g own cc nL fr lo mc ms) {x y : Int32} (hd : decode cc pc = .ok (.isub, 1))  (K : XE g cells slots w (pc + 1) lv (.int (x - y) :: st)) : XE g cells slots w pc lv (.int y :: .int x :: st) := by
  obtain ⟨B, p, e, Rm, s, m, args, below, meth, c, Q⟩ := g
  intro H locs ls hz hP hS hl
  exact lv_isub C.1 C.2.1 hd (K H locs ls hz hP hS hl)
theorem xr_imul {g : Cfg} {own : String} {cc : ByteArray} {nL fr lo mc ms cells slots pc : Nat} {w : Wt} {lv : List (Nat × Value)} {st : List Value} (C : Cx g own cc nL fr lo mc ms) {x y : Int32} (hd : decode cc pc = .ok (.imul, 1))  (K : XE g cells slots w (pc + 1) lv (.int (x * y) :: st)) : XE g cells slots w pc lv (.int y :: .int x :: st) := by
  obtain ⟨B, p, e, Rm, s, m, args, below, meth, c, Q⟩ := g
  intro H locs ls hz hP hS hl
  exact lv_imul C.1 C.2.1 hd (K H locs ls hz hP hS hl)
theorem xr_iand {g : Cfg} {own : String} {cc : ByteArray} {nL fr lo mc ms cells slots pc : Nat} {w : Wt} {lv : List (Nat × Value)} {st : List Value} (C : Cx g own cc nL fr lo mc ms) {x y : Int32} (hd : decode cc pc = .ok (.iand, 1))  (K : XE g cells slots w (pc + 1) lv (.int (x &&& y) :: st)) : XE g cells slots w pc lv (.int y :: .int x :: st) := by
  obtain ⟨B, p, e, Rm, s, m, args, below, meth, c, Q⟩ := g
  intro H locs ls hz hP hS hl
  exact lv_iand C.1 C.2.1 hd (K H locs ls hz hP hS hl)
theorem xr_ixor {g : Cfg} {own : String} {cc : ByteArray} {nL fr lo mc ms cells slots pc : Nat} {w : Wt} {lv : List (Nat × Value)} {st : List Value} (C : Cx g own cc nL fr lo mc ms) {x y : Int32} (hd : decode cc pc = .ok (.ixor, 1))  (K : XE g cells slots w (pc + 1) lv (.int (x ^^^ y) :: st)) : XE g cells slots w pc lv (.int y :: .int x :: st) := by
  obtain ⟨B, p, e, Rm, s, m, args, below, meth, c, Q⟩ := g
  intro H locs ls hz hP hS hl
  exact lv_ixor C.1 C.2.1 hd (K H locs ls hz hP hS hl)
theorem xr_ishr {g : Cfg} {own : String} {cc : ByteArray} {nL fr lo mc ms cells slots pc : Nat} {w : Wt} {lv : List (Nat × Value)} {st : List Value} (C : Cx g own cc nL fr lo mc ms) {x y : Int32} (hd : decode cc pc = .ok (.ishr, 1))  (K : XE g cells slots w (pc + 1) lv (.int (x >>> (y &&& 31)) :: st)) : XE g cells slots w pc lv (.int y :: .int x :: st) := by
  obtain ⟨B, p, e, Rm, s, m, args, below, meth, c, Q⟩ := g
  intro H locs ls hz hP hS hl
  exact lv_ishr C.1 C.2.1 hd (K H locs ls hz hP hS hl)
theorem xr_ishl {g : Cfg} {own : String} {cc : ByteArray} {nL fr lo mc ms cells slots pc : Nat} {w : Wt} {lv : List (Nat × Value)} {st : List Value} (C : Cx g own cc nL fr lo mc ms) {x y : Int32} (hd : decode cc pc = .ok (.ishl, 1))  (K : XE g cells slots w (pc + 1) lv (.int (x <<< (y &&& 31)) :: st)) : XE g cells slots w pc lv (.int y :: .int x :: st) := by
  obtain ⟨B, p, e, Rm, s, m, args, below, meth, c, Q⟩ := g
  intro H locs ls hz hP hS hl
  exact lv_ishl C.1 C.2.1 hd (K H locs ls hz hP hS hl)
theorem xr_idiv {g : Cfg} {own : String} {cc : ByteArray} {nL fr lo mc ms cells slots pc : Nat} {w : Wt} {lv : List (Nat × Value)} {st : List Value} (C : Cx g own cc nL fr lo mc ms) {x y : Int32} (hd : decode cc pc = .ok (.idiv, 1)) (hy : ¬ y = 0) (K : XE g cells slots w (pc + 1) lv (.int (x / y) :: st)) : XE g cells slots w pc lv (.int y :: .int x :: st) := by
  obtain ⟨B, p, e, Rm, s, m, args, below, meth, c, Q⟩ := g
  intro H locs ls hz hP hS hl
  exact lv_idiv C.1 C.2.1 hd hy (K H locs ls hz hP hS hl)
theorem xr_irem {g : Cfg} {own : String} {cc : ByteArray} {nL fr lo mc ms cells slots pc : Nat} {w : Wt} {lv : List (Nat × Value)} {st : List Value} (C : Cx g own cc nL fr lo mc ms) {x y : Int32} (hd : decode cc pc = .ok (.irem, 1)) (hy : ¬ y = 0) (K : XE g cells slots w (pc + 1) lv (.int (irm x y) :: st)) : XE g cells slots w pc lv (.int y :: .int x :: st) := by
  obtain ⟨B, p, e, Rm, s, m, args, below, meth, c, Q⟩ := g
  intro H locs ls hz hP hS hl
  exact lv_irem C.1 C.2.1 hd hy (K H locs ls hz hP hS hl)
theorem xr_ineg {g : Cfg} {own : String} {cc : ByteArray} {nL fr lo mc ms cells slots pc : Nat} {w : Wt} {lv : List (Nat × Value)} {st : List Value} (C : Cx g own cc nL fr lo mc ms) {x : Int32} (hd : decode cc pc = .ok (.ineg, 1))  (K : XE g cells slots w (pc + 1) lv (.int (-x) :: st)) : XE g cells slots w pc lv (.int x :: st) := by
  obtain ⟨B, p, e, Rm, s, m, args, below, meth, c, Q⟩ := g
  intro H locs ls hz hP hS hl
  exact lv_ineg C.1 C.2.1 hd (K H locs ls hz hP hS hl)
theorem xr_i2b {g : Cfg} {own : String} {cc : ByteArray} {nL fr lo mc ms cells slots pc : Nat} {w : Wt} {lv : List (Nat × Value)} {st : List Value} (C : Cx g own cc nL fr lo mc ms) {x : Int32} (hd : decode cc pc = .ok (.i2b, 1))  (K : XE g cells slots w (pc + 1) lv (.int x.toInt8.toInt32 :: st)) : XE g cells slots w pc lv (.int x :: st) := by
  obtain ⟨B, p, e, Rm, s, m, args, below, meth, c, Q⟩ := g
  intro H locs ls hz hP hS hl
  exact lv_i2b C.1 C.2.1 hd rfl (K H locs ls hz hP hS hl)
theorem xr_i2s {g : Cfg} {own : String} {cc : ByteArray} {nL fr lo mc ms cells slots pc : Nat} {w : Wt} {lv : List (Nat × Value)} {st : List Value} (C : Cx g own cc nL fr lo mc ms) {x : Int32} (hd : decode cc pc = .ok (.i2s, 1))  (K : XE g cells slots w (pc + 1) lv (.int x.toInt16.toInt32 :: st)) : XE g cells slots w pc lv (.int x :: st) := by
  obtain ⟨B, p, e, Rm, s, m, args, below, meth, c, Q⟩ := g
  intro H locs ls hz hP hS hl
  exact lv_i2s C.1 C.2.1 hd rfl (K H locs ls hz hP hS hl)
theorem xr_i2l {g : Cfg} {own : String} {cc : ByteArray} {nL fr lo mc ms cells slots pc : Nat} {w : Wt} {lv : List (Nat × Value)} {st : List Value} (C : Cx g own cc nL fr lo mc ms) {x : Int32} (hd : decode cc pc = .ok (.i2l, 1))  (K : XE g cells slots w (pc + 1) lv (.long x.toInt64 :: st)) : XE g cells slots w pc lv (.int x :: st) := by
  obtain ⟨B, p, e, Rm, s, m, args, below, meth, c, Q⟩ := g
  intro H locs ls hz hP hS hl
  exact lv_i2l C.1 C.2.1 hd rfl (K H locs ls hz hP hS hl)
theorem xr_l2i {g : Cfg} {own : String} {cc : ByteArray} {nL fr lo mc ms cells slots pc : Nat} {w : Wt} {lv : List (Nat × Value)} {st : List Value} (C : Cx g own cc nL fr lo mc ms) {x : Int64} (hd : decode cc pc = .ok (.l2i, 1))  (K : XE g cells slots w (pc + 1) lv (.int x.toInt32 :: st)) : XE g cells slots w pc lv (.long x :: st) := by
  obtain ⟨B, p, e, Rm, s, m, args, below, meth, c, Q⟩ := g
  intro H locs ls hz hP hS hl
  exact lv_l2i C.1 C.2.1 hd rfl (K H locs ls hz hP hS hl)
theorem xr_ladd {g : Cfg} {own : String} {cc : ByteArray} {nL fr lo mc ms cells slots pc : Nat} {w : Wt} {lv : List (Nat × Value)} {st : List Value} (C : Cx g own cc nL fr lo mc ms) {x y : Int64} (hd : decode cc pc = .ok (.ladd, 1))  (K : XE g cells slots w (pc + 1) lv (.long (x + y) :: st)) : XE g cells slots w pc lv (.long y :: .long x :: st) := by
  obtain ⟨B, p, e, Rm, s, m, args, below, meth, c, Q⟩ := g
  intro H locs ls hz hP hS hl
  exact lv_ladd C.1 C.2.1 hd (K H locs ls hz hP hS hl)
theorem xr_land {g : Cfg} {own : String} {cc : ByteArray} {nL fr lo mc ms cells slots pc : Nat} {w : Wt} {lv : List (Nat × Value)} {st : List Value} (C : Cx g own cc nL fr lo mc ms) {x y : Int64} (hd : decode cc pc = .ok (.land, 1))  (K : XE g cells slots w (pc + 1) lv (.long (x &&& y) :: st)) : XE g cells slots w pc lv (.long y :: .long x :: st) := by
  obtain ⟨B, p, e, Rm, s, m, args, below, meth, c, Q⟩ := g
  intro H locs ls hz hP hS hl
  exact lv_land C.1 C.2.1 hd (K H locs ls hz hP hS hl)
theorem xr_lor {g : Cfg} {own : String} {cc : ByteArray} {nL fr lo mc ms cells slots pc : Nat} {w : Wt} {lv : List (Nat × Value)} {st : List Value} (C : Cx g own cc nL fr lo mc ms) {x y : Int64} (hd : decode cc pc = .ok (.lor, 1))  (K : XE g cells slots w (pc + 1) lv (.long (x ||| y) :: st)) : XE g cells slots w pc lv (.long y :: .long x :: st) := by
  obtain ⟨B, p, e, Rm, s, m, args, below, meth, c, Q⟩ := g
  intro H locs ls hz hP hS hl
  exact lv_lor C.1 C.2.1 hd (K H locs ls hz hP hS hl)
theorem xr_lshl {g : Cfg} {own : String} {cc : ByteArray} {nL fr lo mc ms cells slots pc : Nat} {w : Wt} {lv : List (Nat × Value)} {st : List Value} (C : Cx g own cc nL fr lo mc ms) {x : Int64} {y : Int32} (hd : decode cc pc = .ok (.lshl, 1))  (K : XE g cells slots w (pc + 1) lv (.long (x <<< (y.toInt64 &&& 63)) :: st)) : XE g cells slots w pc lv (.int y :: .long x :: st) := by
  obtain ⟨B, p, e, Rm, s, m, args, below, meth, c, Q⟩ := g
  intro H locs ls hz hP hS hl
  exact lv_lshl C.1 C.2.1 hd rfl (K H locs ls hz hP hS hl)
theorem xr_lshr {g : Cfg} {own : String} {cc : ByteArray} {nL fr lo mc ms cells slots pc : Nat} {w : Wt} {lv : List (Nat × Value)} {st : List Value} (C : Cx g own cc nL fr lo mc ms) {x : Int64} {y : Int32} (hd : decode cc pc = .ok (.lshr, 1))  (K : XE g cells slots w (pc + 1) lv (.long (x >>> (y.toInt64 &&& 63)) :: st)) : XE g cells slots w pc lv (.int y :: .long x :: st) := by
  obtain ⟨B, p, e, Rm, s, m, args, below, meth, c, Q⟩ := g
  intro H locs ls hz hP hS hl
  exact lv_lshr C.1 C.2.1 hd rfl (K H locs ls hz hP hS hl)
theorem xr_lconst {g : Cfg} {own : String} {cc : ByteArray} {nL fr lo mc ms cells slots pc : Nat} {w : Wt} {lv : List (Nat × Value)} {st : List Value} (C : Cx g own cc nL fr lo mc ms) {n : Fin 2} {v : Int64} (hd : decode cc pc = .ok (.lconst n, 1)) (hv : Int64.ofNat (n : Nat) = v) (K : XE g cells slots w (pc + 1) lv (.long v :: st)) : XE g cells slots w pc lv (st) := by
  obtain ⟨B, p, e, Rm, s, m, args, below, meth, c, Q⟩ := g
  intro H locs ls hz hP hS hl
  exact lv_lconst C.1 C.2.1 hd hv (K H locs ls hz hP hS hl)
theorem xr_iconst {g : Cfg} {own : String} {cc : ByteArray} {nL fr lo mc ms cells slots pc : Nat} {w : Wt} {lv : List (Nat × Value)} {st : List Value} (C : Cx g own cc nL fr lo mc ms) {n : Int} {v : Int32} (hd : decode cc pc = .ok (.iconst n, 1)) (hv : Int32.ofInt n = v) (K : XE g cells slots w (pc + 1) lv (.int v :: st)) : XE g cells slots w pc lv (st) := by
  obtain ⟨B, p, e, Rm, s, m, args, below, meth, c, Q⟩ := g
  intro H locs ls hz hP hS hl
  exact lv_iconst C.1 C.2.1 hd hv (K H locs ls hz hP hS hl)
theorem xr_bipush {g : Cfg} {own : String} {cc : ByteArray} {nL fr lo mc ms cells slots pc : Nat} {w : Wt} {lv : List (Nat × Value)} {st : List Value} (C : Cx g own cc nL fr lo mc ms) {n : Int} {v : Int32} (hd : decode cc pc = .ok (.bipush n, 2)) (hv : (Int8.ofInt n).toInt32 = v) (K : XE g cells slots w (pc + 2) lv (.int v :: st)) : XE g cells slots w pc lv (st) := by
  obtain ⟨B, p, e, Rm, s, m, args, below, meth, c, Q⟩ := g
  intro H locs ls hz hP hS hl
  exact lv_bipush C.1 C.2.1 hd hv (K H locs ls hz hP hS hl)
theorem xr_sipush {g : Cfg} {own : String} {cc : ByteArray} {nL fr lo mc ms cells slots pc : Nat} {w : Wt} {lv : List (Nat × Value)} {st : List Value} (C : Cx g own cc nL fr lo mc ms) {n : Int} {v : Int32} (hd : decode cc pc = .ok (.sipush n, 3)) (hv : (Int16.ofInt n).toInt32 = v) (K : XE g cells slots w (pc + 3) lv (.int v :: st)) : XE g cells slots w pc lv (st) := by
  obtain ⟨B, p, e, Rm, s, m, args, below, meth, c, Q⟩ := g
  intro H locs ls hz hP hS hl
  exact lv_sipush C.1 C.2.1 hd hv (K H locs ls hz hP hS hl)
theorem xr_dup {g : Cfg} {own : String} {cc : ByteArray} {nL fr lo mc ms cells slots pc : Nat} {w : Wt} {lv : List (Nat × Value)} {st : List Value} (C : Cx g own cc nL fr lo mc ms) {va : Value} (hd : decode cc pc = .ok (.dup, 1)) (hv : va.category = 1) (K : XE g cells slots w (pc + 1) lv (va :: va :: st)) : XE g cells slots w pc lv (va :: st) := by
  obtain ⟨B, p, e, Rm, s, m, args, below, meth, c, Q⟩ := g
  intro H locs ls hz hP hS hl
  exact lv_dup C.1 C.2.1 hd hv (K H locs ls hz hP hS hl)
theorem xr_dup2 {g : Cfg} {own : String} {cc : ByteArray} {nL fr lo mc ms cells slots pc : Nat} {w : Wt} {lv : List (Nat × Value)} {st : List Value} (C : Cx g own cc nL fr lo mc ms) {va vb : Value} (hd : decode cc pc = .ok (.dup2, 1)) (hv : va.category = 1) (hu : vb.category = 1) (K : XE g cells slots w (pc + 1) lv (va :: vb :: va :: vb :: st)) : XE g cells slots w pc lv (va :: vb :: st) := by
  obtain ⟨B, p, e, Rm, s, m, args, below, meth, c, Q⟩ := g
  intro H locs ls hz hP hS hl
  exact lv_dup2_11 C.1 C.2.1 hd hv hu (K H locs ls hz hP hS hl)
theorem xr_pop {g : Cfg} {own : String} {cc : ByteArray} {nL fr lo mc ms cells slots pc : Nat} {w : Wt} {lv : List (Nat × Value)} {st : List Value} (C : Cx g own cc nL fr lo mc ms) {va : Value} (hd : decode cc pc = .ok (.pop, 1)) (hv : va.category = 1) (K : XE g cells slots w (pc + 1) lv (st)) : XE g cells slots w pc lv (va :: st) := by
  obtain ⟨B, p, e, Rm, s, m, args, below, meth, c, Q⟩ := g
  intro H locs ls hz hP hS hl
  exact lv_pop C.1 C.2.1 hd hv (K H locs ls hz hP hS hl)
theorem xr_lcmp {g : Cfg} {own : String} {cc : ByteArray} {nL fr lo mc ms cells slots pc : Nat} {w : Wt} {lv : List (Nat × Value)} {st : List Value} (C : Cx g own cc nL fr lo mc ms) {x y : Int64} (hd : decode cc pc = .ok (.lcmp, 1))  (K : XE g cells slots w (pc + 1) lv (.int (lg_cmp x y) :: st)) : XE g cells slots w pc lv (.long y :: .long x :: st) := by
  obtain ⟨B, p, e, Rm, s, m, args, below, meth, c, Q⟩ := g
  intro H locs ls hz hP hS hl
  exact W.lcmp C.1 C.2.1 hd (K H locs ls hz hP hS hl)
theorem xr_iload_n {g : Cfg} {own : String} {cc : ByteArray} {nL fr lo mc ms cells slots pc : Nat} {w : Wt} {lv : List (Nat × Value)} {st : List Value} (C : Cx g own cc nL fr lo mc ms) {k : Fin 4} {i : Nat} {x : Int32} (hd : decode cc pc = .ok (.iload_n k, 1)) (j : Nat) (hj : lv[j]? = some (i, .int x)) (hi : (k : Nat) = i) (K : XE g cells slots w (pc + 1) lv (.int x :: st)) : XE g cells slots w pc lv (st) := by
  obtain ⟨B, p, e, Rm, s, m, args, below, meth, c, Q⟩ := g
  intro H locs ls hz hP hS hl
  exact lv_iload_n C.1 C.2.1 hd hi (lv_at hl j hj) (K H locs ls hz hP hS hl)
theorem xr_iload {g : Cfg} {own : String} {cc : ByteArray} {nL fr lo mc ms cells slots pc : Nat} {w : Wt} {lv : List (Nat × Value)} {st : List Value} (C : Cx g own cc nL fr lo mc ms) {i : Nat} {x : Int32} (hd : decode cc pc = .ok (.iload i, 2)) (j : Nat) (hj : lv[j]? = some (i, .int x)) (K : XE g cells slots w (pc + 2) lv (.int x :: st)) : XE g cells slots w pc lv (st) := by
  obtain ⟨B, p, e, Rm, s, m, args, below, meth, c, Q⟩ := g
  intro H locs ls hz hP hS hl
  exact lv_iload C.1 C.2.1 hd (lv_at hl j hj) (K H locs ls hz hP hS hl)
theorem xr_aload_n {g : Cfg} {own : String} {cc : ByteArray} {nL fr lo mc ms cells slots pc : Nat} {w : Wt} {lv : List (Nat × Value)} {st : List Value} (C : Cx g own cc nL fr lo mc ms) {k : Fin 4} {i : Nat} {x : Nat} (hd : decode cc pc = .ok (.aload_n k, 1)) (j : Nat) (hj : lv[j]? = some (i, .ref x)) (hi : (k : Nat) = i) (K : XE g cells slots w (pc + 1) lv (.ref x :: st)) : XE g cells slots w pc lv (st) := by
  obtain ⟨B, p, e, Rm, s, m, args, below, meth, c, Q⟩ := g
  intro H locs ls hz hP hS hl
  exact lv_aload_n C.1 C.2.1 hd hi (lv_at hl j hj) (K H locs ls hz hP hS hl)
theorem xr_aload {g : Cfg} {own : String} {cc : ByteArray} {nL fr lo mc ms cells slots pc : Nat} {w : Wt} {lv : List (Nat × Value)} {st : List Value} (C : Cx g own cc nL fr lo mc ms) {i : Nat} {x : Nat} (hd : decode cc pc = .ok (.aload i, 2)) (j : Nat) (hj : lv[j]? = some (i, .ref x)) (K : XE g cells slots w (pc + 2) lv (.ref x :: st)) : XE g cells slots w pc lv (st) := by
  obtain ⟨B, p, e, Rm, s, m, args, below, meth, c, Q⟩ := g
  intro H locs ls hz hP hS hl
  exact lv_aload C.1 C.2.1 hd (lv_at hl j hj) (K H locs ls hz hP hS hl)
theorem xr_lload_n {g : Cfg} {own : String} {cc : ByteArray} {nL fr lo mc ms cells slots pc : Nat} {w : Wt} {lv : List (Nat × Value)} {st : List Value} (C : Cx g own cc nL fr lo mc ms) {k : Fin 4} {i : Nat} {x : Int64} (hd : decode cc pc = .ok (.lload_n k, 1)) (j : Nat) (hj : lv[j]? = some (i, .long x)) (hi : (k : Nat) = i) (K : XE g cells slots w (pc + 1) lv (.long x :: st)) : XE g cells slots w pc lv (st) := by
  obtain ⟨B, p, e, Rm, s, m, args, below, meth, c, Q⟩ := g
  intro H locs ls hz hP hS hl
  exact lv_lload_n C.1 C.2.1 hd hi (lv_at hl j hj) (K H locs ls hz hP hS hl)
theorem xr_lload {g : Cfg} {own : String} {cc : ByteArray} {nL fr lo mc ms cells slots pc : Nat} {w : Wt} {lv : List (Nat × Value)} {st : List Value} (C : Cx g own cc nL fr lo mc ms) {i : Nat} {x : Int64} (hd : decode cc pc = .ok (.lload i, 2)) (j : Nat) (hj : lv[j]? = some (i, .long x)) (K : XE g cells slots w (pc + 2) lv (.long x :: st)) : XE g cells slots w pc lv (st) := by
  obtain ⟨B, p, e, Rm, s, m, args, below, meth, c, Q⟩ := g
  intro H locs ls hz hP hS hl
  exact lv_lload C.1 C.2.1 hd (lv_at hl j hj) (K H locs ls hz hP hS hl)
theorem xr_istore_n {g : Cfg} {own : String} {cc : ByteArray} {nL fr lo mc ms cells slots pc : Nat} {w : Wt} {lv : List (Nat × Value)} {st : List Value} (C : Cx g own cc nL fr lo mc ms) {k : Fin 4} {i : Nat} {x : Int32} {lv1 : List (Nat × Value)} (hd : decode cc pc = .ok (.istore_n k, 1)) (hi : (k : Nat) = i) (hn : i < nL) (h1 : (i, Value.int x) :: lv.filter (fun q => !(q.1 == i) && !(q.1 + 1 == i && q.2.category == 2)) = lv1) (K : XE g cells slots w (pc + 1) lv1 st) : XE g cells slots w pc lv (.int x :: st) := by
  obtain ⟨B, p, e, Rm, s, m, args, below, meth, c, Q⟩ := g
  intro H locs ls hz hP hS hl
  exact lv_istore_n C.1 C.2.1 hd hi hl (by rw [show c.maxLocals = nL from C.2.2.1]; exact hn) h1 (fun ls1 hl1 => K H locs ls1 hz hP hS hl1)
theorem xr_istore {g : Cfg} {own : String} {cc : ByteArray} {nL fr lo mc ms cells slots pc : Nat} {w : Wt} {lv : List (Nat × Value)} {st : List Value} (C : Cx g own cc nL fr lo mc ms) {i : Nat} {x : Int32} {lv1 : List (Nat × Value)} (hd : decode cc pc = .ok (.istore i, 2)) (hn : i < nL) (h1 : (i, Value.int x) :: lv.filter (fun q => !(q.1 == i) && !(q.1 + 1 == i && q.2.category == 2)) = lv1) (K : XE g cells slots w (pc + 2) lv1 st) : XE g cells slots w pc lv (.int x :: st) := by
  obtain ⟨B, p, e, Rm, s, m, args, below, meth, c, Q⟩ := g
  intro H locs ls hz hP hS hl
  exact lv_istore C.1 C.2.1 hd hl (by rw [show c.maxLocals = nL from C.2.2.1]; exact hn) h1 (fun ls1 hl1 => K H locs ls1 hz hP hS hl1)
theorem xr_astore_n {g : Cfg} {own : String} {cc : ByteArray} {nL fr lo mc ms cells slots pc : Nat} {w : Wt} {lv : List (Nat × Value)} {st : List Value} (C : Cx g own cc nL fr lo mc ms) {k : Fin 4} {i : Nat} {x : Nat} {lv1 : List (Nat × Value)} (hd : decode cc pc = .ok (.astore_n k, 1)) (hi : (k : Nat) = i) (hn : i < nL) (h1 : (i, Value.ref x) :: lv.filter (fun q => !(q.1 == i) && !(q.1 + 1 == i && q.2.category == 2)) = lv1) (K : XE g cells slots w (pc + 1) lv1 st) : XE g cells slots w pc lv (.ref x :: st) := by
  obtain ⟨B, p, e, Rm, s, m, args, below, meth, c, Q⟩ := g
  intro H locs ls hz hP hS hl
  exact lv_astore_n C.1 C.2.1 hd hi hl (by rw [show c.maxLocals = nL from C.2.2.1]; exact hn) h1 (fun ls1 hl1 => K H locs ls1 hz hP hS hl1)
theorem xr_astore {g : Cfg} {own : String} {cc : ByteArray} {nL fr lo mc ms cells slots pc : Nat} {w : Wt} {lv : List (Nat × Value)} {st : List Value} (C : Cx g own cc nL fr lo mc ms) {i : Nat} {x : Nat} {lv1 : List (Nat × Value)} (hd : decode cc pc = .ok (.astore i, 2)) (hn : i < nL) (h1 : (i, Value.ref x) :: lv.filter (fun q => !(q.1 == i) && !(q.1 + 1 == i && q.2.category == 2)) = lv1) (K : XE g cells slots w (pc + 2) lv1 st) : XE g cells slots w pc lv (.ref x :: st) := by
  obtain ⟨B, p, e, Rm, s, m, args, below, meth, c, Q⟩ := g
  intro H locs ls hz hP hS hl
  exact lv_astore C.1 C.2.1 hd hl (by rw [show c.maxLocals = nL from C.2.2.1]; exact hn) h1 (fun ls1 hl1 => K H locs ls1 hz hP hS hl1)
theorem xr_iinc {g : Cfg} {own : String} {cc : ByteArray} {nL fr lo mc ms cells slots pc : Nat} {w : Wt} {lv : List (Nat × Value)} {st : List Value} (C : Cx g own cc nL fr lo mc ms) {i k : Nat} {n : Int} {x v : Int32} {lv1 : List (Nat × Value)} (hd : decode cc pc = .ok (.iinc i n, 3)) (hk : lv[k]? = some (i, .int x)) (hv : x + Int32.ofInt n = v) (hn : i < nL) (h1 : (i, Value.int v) :: lv.filter (fun q => !(q.1 == i) && !(q.1 + 1 == i && q.2.category == 2)) = lv1) (K : XE g cells slots w (pc + 3) lv1 st) : XE g cells slots w pc lv st := by
  obtain ⟨B, p, e, Rm, s, m, args, below, meth, c, Q⟩ := g
  intro H locs ls hz hP hS hl
  exact lv_iinc C.1 C.2.1 hd hl hk hv (by rw [show c.maxLocals = nL from C.2.2.1]; exact hn) h1 (fun ls1 hl1 => K H locs ls1 hz hP hS hl1)
theorem xr_lv {g : Cfg} {cells slots pc : Nat} {w : Wt} {lv : List (Nat × Value)} {st : List Value} {lv1 : List (Nat × Value)} (is : List Nat) (h1 : lv_pick lv is = lv1) (K : XE g cells slots w pc lv1 st) : XE g cells slots w pc lv st := by
  obtain ⟨B, p, e, Rm, s, m, args, below, meth, c, Q⟩ := g
  intro H locs ls hz hP hS hl
  exact K H locs ls hz hP hS (lv_sub hl is h1)
theorem xr_goto {g : Cfg} {own : String} {cc : ByteArray} {nL fr lo mc ms cells slots pc : Nat} {w : Wt} {lv : List (Nat × Value)} {st : List Value} (C : Cx g own cc nL fr lo mc ms) {off : Int} {tgt : Nat} (hd : decode cc pc = .ok (.goto off, 3)) (ht : (pc : Int) + off = (tgt : Int)) (K : XE g cells slots w tgt lv st) : XE g cells slots w pc lv st := by
  obtain ⟨B, p, e, Rm, s, m, args, below, meth, c, Q⟩ := g
  intro H locs ls hz hP hS hl
  exact lv_goto C.1 C.2.1 hd ht (K H locs ls hz hP hS hl)
theorem xr_icmp_eq {g : Cfg} {own : String} {cc : ByteArray} {nL fr lo mc ms cells slots pc : Nat} {w : Wt} {lv : List (Nat × Value)} {st : List Value} (C : Cx g own cc nL fr lo mc ms) {x y : Int32} {off : Int} {tgt : Nat} (hd : decode cc pc = .ok (.if_icmp .eq off, 3)) (ht : (pc : Int) + off = (tgt : Int)) {α : Type} {A Bx : Option α} {o : α} (h : (if x = y then A else Bx) = some o) (kt : x = y → A = some o → XE g cells slots w tgt lv st) (kf : ¬ x = y → Bx = some o → XE g cells slots w (pc + 3) lv st) : XE g cells slots w pc lv (.int y :: .int x :: st) := by
  obtain ⟨B, p, e, Rm, s, m, args, below, meth, c, Q⟩ := g
  intro H locs ls hz hP hS hl
  exact lv_icmp_eq C.1 C.2.1 hd ht (fun q => kt q ((if_pos q).symm.trans h) H locs ls hz hP hS hl) (fun q => kf q ((if_neg q).symm.trans h) H locs ls hz hP hS hl)
theorem xr_icmp_ne {g : Cfg} {own : String} {cc : ByteArray} {nL fr lo mc ms cells slots pc : Nat} {w : Wt} {lv : List (Nat × Value)} {st : List Value} (C : Cx g own cc nL fr lo mc ms) {x y : Int32} {off : Int} {tgt : Nat} (hd : decode cc pc = .ok (.if_icmp .ne off, 3)) (ht : (pc : Int) + off = (tgt : Int)) {α : Type} {A Bx : Option α} {o : α} (h : (if x = y then A else Bx) = some o) (kt : ¬ x = y → Bx = some o → XE g cells slots w tgt lv st) (kf : x = y → A = some o → XE g cells slots w (pc + 3) lv st) : XE g cells slots w pc lv (.int y :: .int x :: st) := by
  obtain ⟨B, p, e, Rm, s, m, args, below, meth, c, Q⟩ := g
  intro H locs ls hz hP hS hl
  exact lv_icmp_ne C.1 C.2.1 hd ht (fun q => kt q ((if_neg q).symm.trans h) H locs ls hz hP hS hl) (fun q => kf q ((if_pos q).symm.trans h) H locs ls hz hP hS hl)
theorem xr_icmp_lt {g : Cfg} {own : String} {cc : ByteArray} {nL fr lo mc ms cells slots pc : Nat} {w : Wt} {lv : List (Nat × Value)} {st : List Value} (C : Cx g own cc nL fr lo mc ms) {x y : Int32} {off : Int} {tgt : Nat} (hd : decode cc pc = .ok (.if_icmp .lt off, 3)) (ht : (pc : Int) + off = (tgt : Int)) {α : Type} {A Bx : Option α} {o : α} (h : (if x < y then A else Bx) = some o) (kt : x < y → A = some o → XE g cells slots w tgt lv st) (kf : ¬ x < y → Bx = some o → XE g cells slots w (pc + 3) lv st) : XE g cells slots w pc lv (.int y :: .int x :: st) := by
  obtain ⟨B, p, e, Rm, s, m, args, below, meth, c, Q⟩ := g
  intro H locs ls hz hP hS hl
  exact lv_icmp_lt C.1 C.2.1 hd ht (fun q => kt q ((if_pos q).symm.trans h) H locs ls hz hP hS hl) (fun q => kf q ((if_neg q).symm.trans h) H locs ls hz hP hS hl)
theorem xr_icmp_ge {g : Cfg} {own : String} {cc : ByteArray} {nL fr lo mc ms cells slots pc : Nat} {w : Wt} {lv : List (Nat × Value)} {st : List Value} (C : Cx g own cc nL fr lo mc ms) {x y : Int32} {off : Int} {tgt : Nat} (hd : decode cc pc = .ok (.if_icmp .ge off, 3)) (ht : (pc : Int) + off = (tgt : Int)) {α : Type} {A Bx : Option α} {o : α} (h : (if y ≤ x then A else Bx) = some o) (kt : y ≤ x → A = some o → XE g cells slots w tgt lv st) (kf : ¬ y ≤ x → Bx = some o → XE g cells slots w (pc + 3) lv st) : XE g cells slots w pc lv (.int y :: .int x :: st) := by
  obtain ⟨B, p, e, Rm, s, m, args, below, meth, c, Q⟩ := g
  intro H locs ls hz hP hS hl
  exact lv_icmp_ge C.1 C.2.1 hd ht (fun q => kt q ((if_pos q).symm.trans h) H locs ls hz hP hS hl) (fun q => kf q ((if_neg q).symm.trans h) H locs ls hz hP hS hl)
theorem xr_icmp_gt {g : Cfg} {own : String} {cc : ByteArray} {nL fr lo mc ms cells slots pc : Nat} {w : Wt} {lv : List (Nat × Value)} {st : List Value} (C : Cx g own cc nL fr lo mc ms) {x y : Int32} {off : Int} {tgt : Nat} (hd : decode cc pc = .ok (.if_icmp .gt off, 3)) (ht : (pc : Int) + off = (tgt : Int)) {α : Type} {A Bx : Option α} {o : α} (h : (if y < x then A else Bx) = some o) (kt : y < x → A = some o → XE g cells slots w tgt lv st) (kf : ¬ y < x → Bx = some o → XE g cells slots w (pc + 3) lv st) : XE g cells slots w pc lv (.int y :: .int x :: st) := by
  obtain ⟨B, p, e, Rm, s, m, args, below, meth, c, Q⟩ := g
  intro H locs ls hz hP hS hl
  exact lv_icmp_gt C.1 C.2.1 hd ht (fun q => kt q ((if_pos q).symm.trans h) H locs ls hz hP hS hl) (fun q => kf q ((if_neg q).symm.trans h) H locs ls hz hP hS hl)
theorem xr_icmp_le {g : Cfg} {own : String} {cc : ByteArray} {nL fr lo mc ms cells slots pc : Nat} {w : Wt} {lv : List (Nat × Value)} {st : List Value} (C : Cx g own cc nL fr lo mc ms) {x y : Int32} {off : Int} {tgt : Nat} (hd : decode cc pc = .ok (.if_icmp .le off, 3)) (ht : (pc : Int) + off = (tgt : Int)) {α : Type} {A Bx : Option α} {o : α} (h : (if x ≤ y then A else Bx) = some o) (kt : x ≤ y → A = some o → XE g cells slots w tgt lv st) (kf : ¬ x ≤ y → Bx = some o → XE g cells slots w (pc + 3) lv st) : XE g cells slots w pc lv (.int y :: .int x :: st) := by
  obtain ⟨B, p, e, Rm, s, m, args, below, meth, c, Q⟩ := g
  intro H locs ls hz hP hS hl
  exact lv_icmp_le C.1 C.2.1 hd ht (fun q => kt q ((if_pos q).symm.trans h) H locs ls hz hP hS hl) (fun q => kf q ((if_neg q).symm.trans h) H locs ls hz hP hS hl)
theorem xr_if_eq {g : Cfg} {own : String} {cc : ByteArray} {nL fr lo mc ms cells slots pc : Nat} {w : Wt} {lv : List (Nat × Value)} {st : List Value} (C : Cx g own cc nL fr lo mc ms) {x : Int32} {off : Int} {tgt : Nat} (hd : decode cc pc = .ok (.ifCond .eq off, 3)) (ht : (pc : Int) + off = (tgt : Int)) {α : Type} {A Bx : Option α} {o : α} (h : (if x = 0 then A else Bx) = some o) (kt : x = 0 → A = some o → XE g cells slots w tgt lv st) (kf : ¬ x = 0 → Bx = some o → XE g cells slots w (pc + 3) lv st) : XE g cells slots w pc lv (.int x :: st) := by
  obtain ⟨B, p, e, Rm, s, m, args, below, meth, c, Q⟩ := g
  intro H locs ls hz hP hS hl
  exact lv_if_eq C.1 C.2.1 hd ht (fun q => kt q ((if_pos q).symm.trans h) H locs ls hz hP hS hl) (fun q => kf q ((if_neg q).symm.trans h) H locs ls hz hP hS hl)
theorem xr_if_ne {g : Cfg} {own : String} {cc : ByteArray} {nL fr lo mc ms cells slots pc : Nat} {w : Wt} {lv : List (Nat × Value)} {st : List Value} (C : Cx g own cc nL fr lo mc ms) {x : Int32} {off : Int} {tgt : Nat} (hd : decode cc pc = .ok (.ifCond .ne off, 3)) (ht : (pc : Int) + off = (tgt : Int)) {α : Type} {A Bx : Option α} {o : α} (h : (if x = 0 then A else Bx) = some o) (kt : ¬ x = 0 → Bx = some o → XE g cells slots w tgt lv st) (kf : x = 0 → A = some o → XE g cells slots w (pc + 3) lv st) : XE g cells slots w pc lv (.int x :: st) := by
  obtain ⟨B, p, e, Rm, s, m, args, below, meth, c, Q⟩ := g
  intro H locs ls hz hP hS hl
  exact lv_if_ne C.1 C.2.1 hd ht (fun q => kt q ((if_neg q).symm.trans h) H locs ls hz hP hS hl) (fun q => kf q ((if_pos q).symm.trans h) H locs ls hz hP hS hl)
theorem xr_if_lt {g : Cfg} {own : String} {cc : ByteArray} {nL fr lo mc ms cells slots pc : Nat} {w : Wt} {lv : List (Nat × Value)} {st : List Value} (C : Cx g own cc nL fr lo mc ms) {x : Int32} {off : Int} {tgt : Nat} (hd : decode cc pc = .ok (.ifCond .lt off, 3)) (ht : (pc : Int) + off = (tgt : Int)) {α : Type} {A Bx : Option α} {o : α} (h : (if x < 0 then A else Bx) = some o) (kt : x < 0 → A = some o → XE g cells slots w tgt lv st) (kf : ¬ x < 0 → Bx = some o → XE g cells slots w (pc + 3) lv st) : XE g cells slots w pc lv (.int x :: st) := by
  obtain ⟨B, p, e, Rm, s, m, args, below, meth, c, Q⟩ := g
  intro H locs ls hz hP hS hl
  exact lv_if_lt C.1 C.2.1 hd ht (fun q => kt q ((if_pos q).symm.trans h) H locs ls hz hP hS hl) (fun q => kf q ((if_neg q).symm.trans h) H locs ls hz hP hS hl)
theorem xr_if_ge {g : Cfg} {own : String} {cc : ByteArray} {nL fr lo mc ms cells slots pc : Nat} {w : Wt} {lv : List (Nat × Value)} {st : List Value} (C : Cx g own cc nL fr lo mc ms) {x : Int32} {off : Int} {tgt : Nat} (hd : decode cc pc = .ok (.ifCond .ge off, 3)) (ht : (pc : Int) + off = (tgt : Int)) {α : Type} {A Bx : Option α} {o : α} (h : (if 0 ≤ x then A else Bx) = some o) (kt : 0 ≤ x → A = some o → XE g cells slots w tgt lv st) (kf : ¬ 0 ≤ x → Bx = some o → XE g cells slots w (pc + 3) lv st) : XE g cells slots w pc lv (.int x :: st) := by
  obtain ⟨B, p, e, Rm, s, m, args, below, meth, c, Q⟩ := g
  intro H locs ls hz hP hS hl
  exact lv_if_ge C.1 C.2.1 hd ht (fun q => kt q ((if_pos q).symm.trans h) H locs ls hz hP hS hl) (fun q => kf q ((if_neg q).symm.trans h) H locs ls hz hP hS hl)
theorem xr_if_gt {g : Cfg} {own : String} {cc : ByteArray} {nL fr lo mc ms cells slots pc : Nat} {w : Wt} {lv : List (Nat × Value)} {st : List Value} (C : Cx g own cc nL fr lo mc ms) {x : Int32} {off : Int} {tgt : Nat} (hd : decode cc pc = .ok (.ifCond .gt off, 3)) (ht : (pc : Int) + off = (tgt : Int)) {α : Type} {A Bx : Option α} {o : α} (h : (if 0 < x then A else Bx) = some o) (kt : 0 < x → A = some o → XE g cells slots w tgt lv st) (kf : ¬ 0 < x → Bx = some o → XE g cells slots w (pc + 3) lv st) : XE g cells slots w pc lv (.int x :: st) := by
  obtain ⟨B, p, e, Rm, s, m, args, below, meth, c, Q⟩ := g
  intro H locs ls hz hP hS hl
  exact lv_if_gt C.1 C.2.1 hd ht (fun q => kt q ((if_pos q).symm.trans h) H locs ls hz hP hS hl) (fun q => kf q ((if_neg q).symm.trans h) H locs ls hz hP hS hl)
theorem xr_if_le {g : Cfg} {own : String} {cc : ByteArray} {nL fr lo mc ms cells slots pc : Nat} {w : Wt} {lv : List (Nat × Value)} {st : List Value} (C : Cx g own cc nL fr lo mc ms) {x : Int32} {off : Int} {tgt : Nat} (hd : decode cc pc = .ok (.ifCond .le off, 3)) (ht : (pc : Int) + off = (tgt : Int)) {α : Type} {A Bx : Option α} {o : α} (h : (if x ≤ 0 then A else Bx) = some o) (kt : x ≤ 0 → A = some o → XE g cells slots w tgt lv st) (kf : ¬ x ≤ 0 → Bx = some o → XE g cells slots w (pc + 3) lv st) : XE g cells slots w pc lv (.int x :: st) := by
  obtain ⟨B, p, e, Rm, s, m, args, below, meth, c, Q⟩ := g
  intro H locs ls hz hP hS hl
  exact lv_if_le C.1 C.2.1 hd ht (fun q => kt q ((if_pos q).symm.trans h) H locs ls hz hP hS hl) (fun q => kf q ((if_neg q).symm.trans h) H locs ls hz hP hS hl)
