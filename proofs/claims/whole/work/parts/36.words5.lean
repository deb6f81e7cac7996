/-! THE WORDS: mending -/
def popc (n : Nat) : Nat := sm (fun j => n / 2 ^ j % 2) 16
def wsI (w : Nat → Int32) (n : Nat) : Nat → Int32
  | 0 => 0
  | j + 1 => if n / 2 ^ j % 2 = 1 then wsI w n j + w j else wsI w n j
def mny (f : Nat → Int32) (left s : Nat) : Nat := if left / 2 ^ s % 2 = 1 then popc (tn (f s) &&& left) else 0
def bsP (f : Nat → Int32) (left : Nat) : Nat → Int32 × Nat
  | 0 => (-1, 0)
  | s + 1 => if (bsP f left s).2 < mny f left s then (nI s, mny f left s) else bsP f left s
def foesOK (g : Sg) : Bool := al (fun s => inB (g 49 s) 65536) 16
def toldOK (g : Sg) : Bool := al (fun i => inB (g 6 i) 625) 4
def lcI (f w : Nat → Int32) : Nat → Nat → Int32
  | 0, _ => 0
  | k + 1, left => if (bsP f left 16).1 = -1 then 0 else
    (if popc (tn (f (tn (bsP f left 16).1)) &&& left) = 1 then
      minI (wsI w (tn (f (tn (bsP f left 16).1)) &&& left) 16) (w (tn (bsP f left 16).1)) + lcI f w k (left &&& (65535 ^^^ 2 ^ tn (bsP f left 16).1) &&& (65535 ^^^ (tn (f (tn (bsP f left 16).1)) &&& left)))
    else minI (wsI w (tn (f (tn (bsP f left 16).1)) &&& left) 16 + lcI f w k (left &&& (65535 ^^^ 2 ^ tn (bsP f left 16).1) &&& (65535 ^^^ (tn (f (tn (bsP f left 16).1)) &&& left)))) (w (tn (bsP f left 16).1) + lcI f w k (left &&& (65535 ^^^ 2 ^ tn (bsP f left 16).1))))
def b1C (g : Sg) (s t : Nat) : Bool := !al (fun i => !(!decide (g 6 i = 0) && pbC g s t (tn (g 6 i)))) 4
def FP (B : Nat → Nat → Bool) (s t x y : Nat) : Bool := !decide (x = y) && B (min x y) (max x y) && (decide (min x y < s) || (decide (min x y = s) && decide (max x y < t)))
def cnP (B : Nat → Nat → Bool) (s i : Nat) : Nat := sm (fun s => sm (fun i => ct1 (B s (s + 1 + i))) (15 - s)) s + sm (fun i => ct1 (B s (s + 1 + i))) i
def foF (B : Nat → Nat → Bool) (f : Nat → Int32) (s t : Nat) : Nat → Int32 := fun x => if x < 16 then nI (mskN (FP B s t x) 16) else f x
def wt1 (g : Sg) (s : Nat) : Int32 := if rwC g s = true then g 4 s * nI 65536 + nI (2 ^ s) else 0
def wtF (g : Sg) (f : Nat → Int32) (n : Nat) : Nat → Int32 := fun x => if x < n then wt1 g x else f x
def seekG (g : Sg) : Sg := us (us (us g 49 (foF (b1C g) (g 49) 16 0)) 50 (wtF g (g 50) 16)) 48 (upd (upd (g 48) 2 (nI (cnP (b1C g) 16 0))) 3 (lcI (foF (b1C g) (g 49) 16 0) (wtF g (g 50) 16) 17 65535))
def mdC (g : Sg) : Sg := if g 0 5 = 0 then us (seekG g) 0 (upd (g 0) 5 1) else g
def mdV (g : Sg) (w : Int32) : Int32 := if w = 0 then g 48 3 / nI 65536 else if w = 1 then g 48 3 - g 48 3 / nI 65536 * nI 65536 else g 48 2
