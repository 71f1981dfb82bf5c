/-! What the calls come to: one mathematical value that both the class and the reference are tied to. -/
abbrev Ws : Type := Nat × Nat × List (Bool × Lw)
abbrev As : Type := Ws × List Ws × Option Ws × List Nat
def lwg (ls : List (Bool × Lw)) (i : Nat) : Bool × Lw := ls.getD i (false, [], [])
def wsok (w : Ws) : Prop := wok w.1 w.2.1 ∧ w.2.2.length ≤ 5 ∧ ∀ x ∈ w.2.2, okL x.2
def asok (a : As) : Prop := wsok a.1 ∧ (a.2.1.length ≤ 4 ∧ ∀ w ∈ a.2.1, wsok w) ∧ (∀ w, a.2.2.1 = some w → wsok w) ∧ a.2.2.2.length ≤ 60 ∧ ∀ x ∈ a.2.2.2, x < 65536
def push4 (h : List Ws) (w : Ws) : List Ws := if h.length = 4 then h.tail ++ [w] else h ++ [w]
/-- an act: the state that was before is recorded -/
def act (a : As) (w : Ws) : As := (w, push4 a.2.1 a.1, a.2.2.1, a.2.2.2)
def tn (x : Int32) : Nat := x.toInt.toNat
/-- a number from 0 on, below n -/
def isN (n : Nat) (x : Int32) : Bool := decide (0 ≤ x.toInt ∧ x.toInt < n)
theorem isN_ex {n : Nat} {x : Int32} (h : isN n x = true) (hn : n < 2 ^ 31) : ∃ j, j < n ∧ x = nI j := by
  simp [isN] at h
  exact nI_intlt h.1 h.2 hn
theorem isN_nI {n j : Nat} (hj : j < 2 ^ 31) : isN n (nI j) = decide (j < n) := by
  unfold isN
  rw [nI_toInt hj]
  congr 1
  apply propext
  omega
theorem tn_nI {j : Nat} (hj : j < 2 ^ 31) : tn (nI j) = j := by
  unfold tn
  rw [nI_toInt hj]
  rfl
theorem isN_wthn {n : Nat} {x : Int32} : wthn x 0 ((n : Int) - 1) = isN n x := by
  unfold wthn isN
  congr 1
  apply propext
  omega
/-! laws over worlds -/
def holdb (ls : List (Bool × Lw)) (n c but : Nat) : Bool := (List.range ls.length).all (fun i => i == but || !(lwg ls i).1 || bc n c (lwg ls i).2 == 0)
def lawsOn (ls : List (Bool × Lw)) : Nat := ct (fun i => (lwg ls i).1) ls.length
def keyw (ls : List (Bool × Lw)) (i w : Nat) : Nat := bc (pws w) (pwc w) (lwg ls i).2
def wgrp (ls : List (Bool × Lw)) (i cs N : Nat) : List Nat := (List.range N).filter (fun w => keyw ls i w == cs && holdb ls (pws w) (pwc w) i)
def wlst (ls : List (Bool × Lw)) (i : Nat) : Nat → List Nat
  | 0 => []
  | cs + 1 => wlst ls i cs ++ wgrp ls i (cs + 1) 3341
def wit (ls : List (Bool × Lw)) (i : Nat) : List Nat := (wlst ls i 27).take 12
/-! the texts -/
abbrev Ps : Type := List Lw × Bool × List Nat × List Nat × Nat × List Bool
def epart (cur : List Nat) (bg : List Bool) : List Nat × List Bool := match bg with
  | [] => (cur, [])
  | true :: r => (cur ++ [3], true :: r)
  | false :: r => (cur, true :: r)
def pstep (s : Ps) (ch : Nat) : Option Ps :=
  if 120 ≤ ch ∧ ch ≤ 122 then (if s.2.2.2.2.1 < 8 then some (s.1, s.2.1, s.2.2.1, (epart (s.2.2.2.1 ++ [ch - 120]) s.2.2.2.2.2).1, s.2.2.2.2.1 + 1, (epart (s.2.2.2.1 ++ [ch - 120]) s.2.2.2.2.2).2) else none)
  else if ch = 40 then (if s.2.2.2.2.2.length < 4 then some (s.1, s.2.1, s.2.2.1, s.2.2.2.1, s.2.2.2.2.1, false :: s.2.2.2.2.2) else none)
  else if ch = 41 then (match s.2.2.2.2.2 with
    | true :: b2 :: r => some (s.1, s.2.1, s.2.2.1, (epart s.2.2.2.1 (b2 :: r)).1, s.2.2.2.2.1, (epart s.2.2.2.1 (b2 :: r)).2)
    | _ => none)
  else if ch = 61 then (if s.2.1 = false ∧ s.2.2.2.2.2 = [true] then some (s.1, true, s.2.2.2.1, [], 0, [false]) else none)
  else if ch = 59 then (if s.2.1 = true ∧ s.2.2.2.2.2 = [true] then some (s.1 ++ [(s.2.2.1, s.2.2.2.1)], false, [], [], 0, [false]) else none)
  else none
def prun : Ps → Nat → List Nat → Nat ⊕ Ps
  | s, _, [] => .inr s
  | s, i, ch :: l => match pstep s ch with
    | none => .inl i
    | some s' => prun s' (i + 1) l
def pinit : Ps := ([], false, [], [], 0, [false])
def parse (t : List Nat) : Nat ⊕ List Lw := match prun pinit 0 t with
  | .inl i => .inl i
  | .inr s => if s.2.1 = true ∧ s.2.2.2.2.2 = [true] then .inr (s.1 ++ [(s.2.2.1, s.2.2.2.1)]) else .inl t.length
/-! things that come of others -/
def addp (n c : Nat) (S : Nat) : Nat → Nat
  | 0 => S
  | k + 1 => addp n c S k ||| (if S.testBit (k / n) && S.testBit (k % n) then 2 ^ dig n c k else 0)
def clo (n c S : Nat) : Nat → Nat
  | 0 => S
  | r + 1 => addp n c (clo n c S r) (n * n)
/-! the calls -/
def opTake (a : As) (x y : Int32) : Int32 × As :=
  if isW x y = true then (if tn x = a.1.1 ∧ tn y = a.1.2.1 then (-5, a) else (nI a.1.2.1, act a (tn x, tn y, a.1.2.2))) else (-2, a)
def becm (a : As) (c : Nat) : Int32 × As := if c = a.1.2.1 then (-5, a) else (nI c, act a (a.1.1, c, a.1.2.2))
def cput (n c k v : Nat) : Nat := c - dig n c k * n ^ k + v * n ^ k
def opPut (a : As) (x y v : Int32) : Int32 × As :=
  if (isN a.1.1 x && isN a.1.1 y && isN a.1.1 v) = true then becm a (cput a.1.1 a.1.2.1 (a.1.1 * tn x + tn y) (tn v)) else (-1, a)
def opRename (a : As) (x y : Int32) : Int32 × As :=
  if (isN a.1.1 x && isN a.1.1 y) = true then (if tn x = tn y then (-2, a) else becm a (rcode a.1.1 a.1.2.1 (tn x + tn y))) else (-1, a)
def opMirror (a : As) : Int32 × As := becm a (mir a.1.1 a.1.2.1)
def opAdd (a : As) : Int32 × As := match parse a.2.2.2 with
  | .inl i => (-100 - nI i, a)
  | .inr L => if a.1.2.2.length + L.length ≤ 5 then (nI L.length, act a (a.1.1, a.1.2.1, a.1.2.2 ++ L.map (fun w => (true, w)))) else (-3, a)
def opRemove (a : As) (x : Int32) : Int32 × As :=
  if isN a.1.2.2.length x = true then (nI (a.1.2.2.length - 1), act a (a.1.1, a.1.2.1, a.1.2.2.eraseIdx (tn x))) else (-1, a)
def opTurn (a : As) (x : Int32) (on : Bool) : Int32 × As :=
  if isN a.1.2.2.length x = true then (if (lwg a.1.2.2 (tn x)).1 = on then (-5, a) else (nI (lawsOn (a.1.2.2.set (tn x) (on, (lwg a.1.2.2 (tn x)).2))), act a (a.1.1, a.1.2.1, a.1.2.2.set (tn x) (on, (lwg a.1.2.2 (tn x)).2)))) else (-1, a)
def opRefute (a : As) (x : Int32) : Int32 × As :=
  if isN a.1.2.2.length x = true then (match wit a.1.2.2 (tn x) with
    | [] => (-5, a)
    | w :: _ => (nI (pwc w), act a (pws w, pwc w, a.1.2.2))) else (-1, a)
def opType (a : As) (ch : Nat) : Int32 × As := if a.2.2.2.length < 60 then (nI (a.2.2.2.length + 1), (a.1, a.2.1, a.2.2.1, a.2.2.2 ++ [ch])) else (-3, a)
def opClear (a : As) : Int32 × As := (nI a.2.2.2.length, (a.1, a.2.1, a.2.2.1, []))
def opUndo (a : As) : Int32 × As := if a.2.1.length = 0 then (-5, a) else (nI (a.2.1.length - 1), (a.2.1.getD (a.2.1.length - 1) a.1, a.2.1.take (a.2.1.length - 1), a.2.2.1, a.2.2.2))
def opKeep (a : As) : Int32 × As := (nI a.1.2.2.length, (a.1, a.2.1, some a.1, a.2.2.2))
def opRestore (a : As) : Int32 × As := match a.2.2.1 with
  | none => (-5, a)
  | some w => (nI w.2.2.length, act a w)
def qOf (a : As) (x y : Int32) : Int32 := if (isN a.1.1 x && isN a.1.1 y) = true then nI (dig a.1.1 a.1.2.1 (a.1.1 * tn x + tn y)) else (-1)
def bset (N : Nat) (p : Nat → Bool) : Nat := sm (fun k => if p k then 2 ^ k else 0) N
def things (n c what : Nat) : Nat := bset n (fun x => (List.range n).all (fun y => if what = 4 then dig n c (n * x + x) == x else if what = 5 then dig n c (n * x + y) == y else dig n c (n * y + x) == y))
def holdNow (w : Ws) (onAlone : Bool) : Nat := ct (fun i => (!onAlone || (lwg w.2.2 i).1) && bc w.1 w.2.1 (lwg w.2.2 i).2 == 0) w.2.2.length
def qWorld (a : As) (x : Int32) : Int32 :=
  if isN 8 x = true then (match tn x with
    | 0 => nI a.1.1
    | 1 => nI a.1.2.1
    | 2 => nI (plain a.1.1 a.1.2.1)
    | 3 => nI (ways a.1.1 / stb a.1.1 a.1.2.1)
    | 4 => nI (things a.1.1 a.1.2.1 4)
    | 5 => nI (things a.1.1 a.1.2.1 5)
    | 6 => nI (things a.1.1 a.1.2.1 6)
    | _ => bI (holdNow a.1 true == lawsOn a.1.2.2)) else (-2)
def qClosed (a : As) (x : Int32) : Int32 := if isN (2 ^ a.1.1) x = true then nI (clo a.1.1 a.1.2.1 (tn x) a.1.1) else (-2)
def letn (w : Lw) : Nat := (w.1 ++ w.2).countP (fun s => decide (s < 3))
def lets : List Nat → Nat
  | [] => 0
  | s :: l => (if s < 3 then 2 ^ s else 0) ||| lets l
def fbr (n c : Nat) (w : Lw) (N : Nat) : Int32 := match (List.range N).find? (fun k => brk n c k w) with
  | none => (-5)
  | some k => nI k
def qLaw (a : As) (x y : Int32) : Int32 :=
  if isN a.1.2.2.length x = true then (if isN 7 y = true then (match tn y with
    | 0 => bI (lwg a.1.2.2 (tn x)).1
    | 1 => nI (bc a.1.1 a.1.2.1 (lwg a.1.2.2 (tn x)).2)
    | 2 => nI (letn (lwg a.1.2.2 (tn x)).2)
    | 3 => nI (lets ((lwg a.1.2.2 (tn x)).2.1 ++ (lwg a.1.2.2 (tn x)).2.2))
    | 4 => bI ((wit a.1.2.2 (tn x)).length == 0)
    | 5 => nI (wit a.1.2.2 (tn x)).length
    | _ => fbr a.1.1 a.1.2.1 (lwg a.1.2.2 (tn x)).2 (a.1.1 * a.1.1 * a.1.1)) else (-2)) else (-1)
def qSide (a : As) (x : Int32) (right : Bool) (y : Int32) : Int32 :=
  if isN a.1.2.2.length x = true then (if isN (a.1.1 * a.1.1 * a.1.1) y = true then nI (evl a.1.1 a.1.2.1 (tn y) (if right then (lwg a.1.2.2 (tn x)).2.2 else (lwg a.1.2.2 (tn x)).2.1)) else (-2)) else (-1)
def qWitness (a : As) (x y z : Int32) : Int32 :=
  if isN a.1.2.2.length x = true then (if 0 ≤ y.toInt ∧ isN 3 z = true then (if tn y < (wit a.1.2.2 (tn x)).length then (match tn z with
    | 0 => nI (pws ((wit a.1.2.2 (tn x)).getD (tn y) 0))
    | 1 => nI (pwc ((wit a.1.2.2 (tn x)).getD (tn y) 0))
    | _ => nI (keyw a.1.2.2 (tn x) ((wit a.1.2.2 (tn x)).getD (tn y) 0))) else (-5)) else (-2)) else (-1)
def mods (ls : List (Bool × Lw)) (n : Nat) (N : Nat) : List Nat := (List.range N).filter (fun k => holdb ls (pws (fo n + k)) (pwc (fo n + k)) 5)
def qModel (a : As) (x y : Int32) : Int32 :=
  if wthn x 1 3 = true ∧ 0 ≤ y.toInt then (if tn y < (mods a.1.2.2 (tn x) (fo (tn x + 1) - fo (tn x))).length then nI (pwc (fo (tn x) + (mods a.1.2.2 (tn x) (fo (tn x + 1) - fo (tn x))).getD (tn y) 0)) else (-5)) else (-2)
def modn (ls : List (Bool × Lw)) (n : Nat) (all : Bool) (N : Nat) : Nat := sm (fun k => if holdb ls (pws (fo n + k)) (pwc (fo n + k)) 5 then (if all then oc n (pwc (fo n + k)) else 1) else 0) N
def qModels (a : As) (x : Int32) (all : Bool) : Int32 := if wthn x 1 3 = true then nI (modn a.1.2.2 (tn x) all (fo (tn x + 1) - fo (tn x))) else (-2)
def qPaired (a : As) (x y z : Int32) : Int32 :=
  if isW x y = true then (if isN a.1.2.2.length z = true then nI ((a.1.1 * a.1.1 * a.1.1) * (tn x * tn x * tn x) - (a.1.1 * a.1.1 * a.1.1 - bc a.1.1 a.1.2.1 (lwg a.1.2.2 (tn z)).2) * (tn x * tn x * tn x - bc (tn x) (tn y) (lwg a.1.2.2 (tn z)).2)) else (-1)) else (-2)
def qAlike (x y z : Int32) : Int32 := if (isW x y && isW x z) = true then bI (plain (tn x) (tn y) == plain (tn x) (tn z)) else (-2)
def qCount (a : As) (x : Int32) : Int32 :=
  if isN 6 x = true then (match tn x with
    | 0 => nI a.1.2.2.length
    | 1 => nI (lawsOn a.1.2.2)
    | 2 => nI (holdNow a.1 false)
    | 3 => nI (ct (fun i => (wit a.1.2.2 i).length == 0) a.1.2.2.length)
    | 4 => nI a.2.1.length
    | _ => nI a.2.2.2.length) else (-2)
