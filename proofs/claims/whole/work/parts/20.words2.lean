/-! THE WORDS: the class's own calls -/
def keepC (g : Sg) : Sg := us (cpS g 1 (9 + 6 * tn (g 7 1))) 7 (upd (upd (g 7) 1 (nI ((tn (g 7 1) + 1) % 6))) 2 (minI (g 7 2 + nI 1) (nI 6)))
def backC (g : Sg) : Sg := cpS (us g 7 (upd (upd (g 7) 1 (nI ((tn (g 7 1) + 5) % 6))) 2 (g 7 2 - nI 1))) (9 + 6 * ((tn (g 7 1) + 5) % 6)) 1
def remC (g : Sg) : Sg := us (keepC g) 0 (upd (upd (g 0) 4 0) 5 0)
def undC (g : Sg) : Sg := us (backC g) 0 (upd (upd (g 0) 4 0) 5 0)
def cntC (g : Sg) : Sg := if g 0 4 = 0 then us (recG g) 0 (upd (g 0) 4 1) else g
def tabC (g : Sg) (c : Int32) : Sg := us (us (us (remC g) 1 (upd (remC g 1) 0 c)) 2 (filF (remC g 2) 16 (-1))) 6 (filF (remC g 6) 4 0)
def putB (s k n a b c d : Int32) : Bool := inB s 16 && isI k 0 4 && isI n 0 4 && (decide (n ≤ 0) || fitB k a) && (decide (n ≤ 1) || fitB k b) && (decide (n ≤ 2) || fitB k c) && (decide (n ≤ 3) || fitB k d)
def wr4 (f : Nat → Int32) (s : Nat) (n a b c d : Int32) : Nat → Int32 := upd (upd (upd (upd f (s * 4 + 0) (wr1 (if n ≤ 0 then 100 else a))) (s * 4 + 1) (wr1 (if n ≤ 1 then 100 else b))) (s * 4 + 2) (wr1 (if n ≤ 2 then 100 else c))) (s * 4 + 3) (wr1 (if n ≤ 3 then 100 else d))
def putC (g : Sg) (s k n a b c d : Int32) : Sg := us (us (us (us (remC g) 2 (upd (remC g 2) (tn s) k)) 3 (upd (remC g 3) (tn s) n)) 4 (upd (remC g 4) (tn s) 1)) 5 (wr4 (remC g 5) (tn s) n a b c d)
def rowB (g : Sg) (s : Int32) : Bool := inB s 16 && rwC g (tn s)
def colB (g : Sg) (c : Int32) : Bool := decide (0 ≤ c) && decide (c < g 1 0)
def chB (g : Sg) (s c v : Int32) : Bool := rowB g s && colB g c && decide (c < g 3 (tn s)) && fitB (g 2 (tn s)) v
def chC (g : Sg) (s c v : Int32) : Sg := us (remC g) 5 (upd (remC g 5) (s * nI 4 + c).toNatClampNeg (wr1 v))
def strC (g : Sg) (s : Int32) : Sg := us (remC g) 2 (upd (remC g 2) (tn s) (-1))
def priC (g : Sg) (s v : Int32) : Sg := us (remC g) 4 (upd (remC g 4) (tn s) v)
def swB (g : Sg) (c d : Int32) : Bool := colB g c && colB g d && decide (maxI c d < shC g 16)
def swC (g : Sg) (c d : Int32) : Sg := us (remC g) 5 (exN (remC g 5) (tn c) (tn d) 16)
def atV (g : Sg) (s c : Int32) : Int32 := if (rowB g s && colB g c) = true then g 5 (s * nI 4 + c).toNatClampNeg else 1001
def rowV (g : Sg) (s w : Int32) : Int32 := if inB s 16 = true then (if w = 0 then b2i (rwC g (tn s)) else if rwC g (tn s) = true then (if w = 1 then g 2 (tn s) else if w = 2 then g 3 (tn s) else if w = 3 then g 4 (tn s) else -1) else -1) else -1
def betV (g : Sg) (s t : Int32) : Int32 := if (!decide (s = t) && rowB g s && rowB g t) = true then nI (btw (tn (g 1 0)) (nmC g) (tn s) (tn t)) else -1
def prB (g : Sg) (b : Int32) : Bool := lawB (tn (g 1 0)) b && decide (nI (cols (tn b)) = g 1 0)
def cnU (n : Nat) : Nat → Nat := sm (fun c => ct1 (decide (D n c = 2)))
def cnO (n : Nat) : Nat → Nat := sm (fun c => ct1 (decide (2 < D n c)))
def cnA (n : Nat) : Nat → Nat := sm (fun c => ct1 (decide (D n c = 1)))
def srtN (n : Nat) : Int32 := if 1 < cnO n 4 then 2 else if cnO n 4 = 1 then 3 else if 1 < cnU n 4 then 3 else if cnU n 4 = 1 then 1 else 0
def tlB (C : Nat) (i law : Int32) : Bool := inB i 4 && (decide (law = 0) || lawB C law)
def tlC (g : Sg) (i law : Int32) : Sg := us (remC g) 6 (upd (remC g 6) (tn i) law)
def gH (g : Sg) : Bool := inB (g 7 1) 6
def gC (g : Sg) : Bool := inB (g 1 0) 5
