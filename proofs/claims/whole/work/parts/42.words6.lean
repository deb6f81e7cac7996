/-! THE WORDS: the model's mending -/
def toldM (g : Sg) : Bool := al (fun i => inB (g 52 (129 + i)) 625) 4
def isOK (g : Sg) : Bool := al (fun s => isB (g 52 (8 * s))) 16
def b1M (g : Sg) (s t : Nat) : Bool := !al (fun i => !(!decide (g 52 (129 + i) = 0) && brB (tn (g 52 128)) (rwM g) (nmM g) (tn (g 52 (129 + i))) s t)) 4
def cfM (g : Sg) : Sg := us g 57 (foF (b1M g) (g 57) 16 0)
def gdB (a : Nat → Int32) (n : Nat) : Nat → Bool := al (fun s => bit n s || decide (tn (a s) &&& (65535 ^^^ n) = 0))
def bfP (ok : Nat → Bool) (cost : Nat → Int32) : Nat → Int32 × Int32
  | 0 => (-1, 0)
  | n + 1 => if (ok n && (decide ((bfP ok cost n).1 = -1) || decide (cost n < (bfP ok cost n).2))) = true then (nI n, cost n) else bfP ok cost n
def prM3 (g : Sg) (s : Nat) : Int32 := g 52 (8 * s + 3)
def okS (g : Sg) (a : Nat → Int32) (n : Nat) : Bool := decide (n &&& (65535 ^^^ mskN (rwM g) 16) = 0) && gdB a n 16
def mbP (g : Sg) (n : Nat) : Int32 × Int32 := bfP (okS g (cfM g 57)) (fun n => wsI (prM3 g) n 16) n
def mmV (g : Sg) (w : Int32) : Int32 := if w = 2 then nI (cnP (b1M g) 16 0) else if w = 0 then (mbP g 65536).2 else (mbP g 65536).1
