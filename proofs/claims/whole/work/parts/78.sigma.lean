/-! 78: the state of a mill, and what the calls do to it -/
/-- a stage: ints by number (1 mark, 2 idle, 3 kind, 4 came, 6 a, 7 b, 8 gave any, 9 gave key, 10 gave minute, 20 how, 21 lateness, 22 early, 23 dropped), the value given last, what feeds it, lanes -/
abbrev Stg : Type := (Nat → Int32) × Int64 × (Nat → Bool) × (Nat → List Wd)
def gI (S : Stg) : Nat → Int32 := S.1
def gV (S : Stg) : Int64 := S.2.1
def gF (S : Stg) : Nat → Bool := S.2.2.1
def gL (S : Stg) : Nat → List Wd := S.2.2.2
def sgI (S : Stg) (f : Nat) (v : Int32) : Stg := (upR (gI S) f v, gV S, gF S, gL S)
/-- a mill: stages made, events told, rows, marks and idleness of ports, stages -/
abbrev Sg : Type := Nat × Nat × List Rw × (Nat → Int32) × (Nat → Int32) × (Nat → Stg)
def xM (X : Sg) : Nat := X.1
def xT (X : Sg) : Nat := X.2.1
def xR (X : Sg) : List Rw := X.2.2.1
def xP (X : Sg) : Nat → Int32 := X.2.2.2.1
def xI (X : Sg) : Nat → Int32 := X.2.2.2.2.1
def xS (X : Sg) : Nat → Stg := X.2.2.2.2.2
def xSet (X : Sg) (s : Nat) (S : Stg) (rows : List Rw) : Sg := (xM X, xT X, rows, xP X, xI X, upR (xS X) s S)
def isW (S : Stg) : Bool := decide (4 ≤ gI S 3)
def sSes (S : Stg) : Bool := decide (gI S 3 = 6)
def sSp (S : Stg) : Int32 := spW (gI S 3) (gI S 6)
def sSt (S : Stg) : Int32 := stW (gI S 3) (gI S 6) (gI S 7)
def sHow (S : Stg) : Nat := (gI S 20).toNatClampNeg
def sEa (S : Stg) : Nat := (gI S 22).toNatClampNeg
def sDr (S : Stg) : Nat := (gI S 23).toNatClampNeg
/-- an event comes to a stage with windows -/
def takeG (X : Sg) (s : Nat) (key m : Int32) (v : Int64) : Sg :=
  xSet X s (upR (upR (gI (xS X s)) 4 (gI (xS X s) 4 + 1)) 23 (nI (tkS (sSes (xS X s)) s (sHow (xS X s)) (sEa (xS X s)) (sSp (xS X s)) (sSt (xS X s)) (gI (xS X s) 21) (gI (xS X s) 1) key.toNatClampNeg m v (gL (xS X s), xR X, sDr (xS X s))).2.2), gV (xS X s), gF (xS X s), (tkS (sSes (xS X s)) s (sHow (xS X s)) (sEa (xS X s)) (sSp (xS X s)) (sSt (xS X s)) (gI (xS X s) 21) (gI (xS X s) 1) key.toNatClampNeg m v (gL (xS X s), xR X, sDr (xS X s))).1)
    (tkS (sSes (xS X s)) s (sHow (xS X s)) (sEa (xS X s)) (sSp (xS X s)) (sSt (xS X s)) (gI (xS X s) 21) (gI (xS X s) 1) key.toNatClampNeg m v (gL (xS X s), xR X, sDr (xS X s))).2.1
/-- an event comes to a stage that gives events on: whether it does, and the stage then -/
def passB (S : Stg) (v : Int64) : Bool := decide (gI S 3 = 0 → (if 0 < gI S 7 then fmL v (gI S 7).toInt64 = (gI S 6).toInt64 else (gI S 6).toInt64 ≤ v))
def passS (S : Stg) (key m : Int32) (v : Int64) : Stg :=
  if passB S v then (upR (upR (upR (upR (gI S) 4 (gI S 4 + 1)) 8 1) 9 (givK (gI S 3) (gI S 6) key v)) 10 m, givV (gI S 3) (gI S 6) (gI S 7) v, gF S, gL S) else sgI S 4 (gI S 4 + 1)
/-- an event goes from a source to all that it feeds -/
def carryS : Nat → Nat → Int32 → Int32 → Int64 → Sg → Sg
  | 0, _, _, _, _, X => X
  | n + 1, from_, key, m, v, X =>
    (List.range (xM X)).foldl (fun Y s =>
      if gF (xS Y s) from_ then
        (if isW (xS Y s) then takeG Y s key m v
        else if passB (xS Y s) v then carryS n (8 + s) (gI (passS (xS Y s) key m v) 9) m (gV (passS (xS Y s) key m v)) (xSet Y s (passS (xS Y s) key m v) (xR Y))
        else xSet Y s (passS (xS Y s) key m v) (xR Y))
      else Y) X
/-- the marks and idleness of sources: ports, then stages -/
def srcM (X : Sg) (f : Nat) : Int32 := if f < 8 then xP X f else gI (xS X (f - 8)) 1
def srcI (X : Sg) (f : Nat) : Int32 := if f < 8 then xI X f else gI (xS X (f - 8)) 2
def wake (X : Sg) (s : Nat) : List Nat := (List.range 24).filter (fun f => gF (xS X s) f && decide (srcI X f = 0))
def leastM (X : Sg) (s : Nat) : Int32 := (wake X s).foldl (fun m f => mnI m (srcM X f)) 200000
def riseG (X : Sg) (s : Nat) (to : Int32) : Sg :=
  if isW (xS X s) then xSet X s (upR (gI (xS X s)) 1 to, gV (xS X s), gF (xS X s), (rsS s (sHow (xS X s)) (gI (xS X s) 1) to (gL (xS X s), xR X)).1) (rsS s (sHow (xS X s)) (gI (xS X s) 1) to (gL (xS X s), xR X)).2
  else xSet X s (sgI (xS X s) 1 to) (xR X)
def settle1 (X : Sg) (s : Nat) : Sg :=
  if wake X s = [] then xSet X s (sgI (xS X s) 2 1) (xR X)
  else if gI (xS X s) 1 < leastM X s then riseG (xSet X s (sgI (xS X s) 2 0) (xR X)) s (leastM X s)
  else xSet X s (sgI (xS X s) 2 0) (xR X)
def settleS (X : Sg) : Sg := (List.range (xM X)).foldl settle1 X
/-- whether a kind with its numbers is one -/
def saidB (kd a b : Int32) : Bool :=
  if kd = 0 then decide (0 ≤ b ∧ b ≤ 1000) else if kd = 1 then true else if kd = 2 then true else if kd = 3 then decide (1 ≤ a ∧ a ≤ 1000) else if kd = 4 then decide (1 ≤ a ∧ a ≤ 10000)
  else if kd = 5 then decide ((1 ≤ a ∧ a ≤ 10000) ∧ (1 ≤ b ∧ b ≤ a) ∧ a ≤ 4 * b) else if kd = 6 then decide (0 ≤ a ∧ a ≤ 10000) else false
