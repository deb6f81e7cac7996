/-! THE WORDS: what the methods compute -/
def wd (a b : Int32) : Nat := if a = 1000 then 2 else if b = 1000 then 2 else if a = b then 1 else if a < b then 3 else 4
def btw (C : Nat) (nm : Nat → Nat → Int32) (s t : Nat) : Nat := sm (fun c => 5 ^ c * wd (nm s c) (nm t c)) C
def cols (n : Nat) : Nat := sm (fun c => ct1 (!decide (D n c = 0))) 4
def tuA (n : Nat) : Nat → Nat
  | 0 => n
  | c + 1 => if D n c = 3 then tuA n c + 5 ^ c else if D n c = 4 then tuA n c - 5 ^ c else tuA n c
def tun (n : Nat) : Nat := tuA n 4
def sw (d : Nat) : Nat := if d = 3 then 4 else if d = 4 then 3 else d
def tuM (n : Nat) : Nat := sm (fun c => 5 ^ c * sw (D n c)) 4
def covD (a b : Nat) : Bool := if a = 2 then decide (2 ≤ b) else (decide (a = 0) || decide (a = b))
def cov (w n : Nat) : Bool := al (fun c => covD (D w c) (D n c)) 4
def alk (n : Nat) : Nat := sm (fun c => if n / 2 ^ c % 2 = 1 then 5 ^ c else 0) 4
def fitB (k x : Int32) : Bool := (decide (-99 ≤ x) && decide (x ≤ 99)) || (decide (k = 4) && decide (x = 100))
def lawB (k : Nat) (x : Int32) : Bool := decide (0 < x) && decide (x < nI (5 ^ k))
def isI (v a b : Int32) : Bool := decide (a ≤ v) && decide (v ≤ b)
-- the class
def rwC (g : Sg) (j : Nat) : Bool := !decide (g 2 j = -1)
def nmC (g : Sg) (s c : Nat) : Int32 := g 5 (s * 4 + c)
def shC (g : Sg) : Nat → Int32
  | 0 => 4
  | j + 1 => if rwC g j = true then minI (shC g j) (g 3 j) else shC g j
def exN (f : Nat → Int32) (c d n : Nat) : Nat → Int32 := fun j => if j < 4 * n then (if j % 4 = c then f (j / 4 * 4 + d) else if j % 4 = d then f (j / 4 * 4 + c) else f j) else f j
def pbC (g : Sg) (s t n : Nat) : Bool := rwC g s && rwC g t && (cov n (btw (tn (g 1 0)) (nmC g) s t) || cov (tun n) (btw (tn (g 1 0)) (nmC g) s t))
def filF (f : Nat → Int32) (n : Nat) (v : Int32) : Nat → Int32 := fun j => if j < n then v else f j
def wr1 (v : Int32) : Int32 := if v = 100 then 1000 else v
-- the tally
def pair2 (rw : Nat → Bool) (bt : Nat → Nat → Nat) (s t b : Nat) : Nat := ct1 (!decide (s = t) && rw s && rw t && decide (bt s t = b))
def seenN (rw : Nat → Bool) (bt : Nat → Nat → Nat) (b : Nat) : Nat := sm (fun s => sm (fun t => pair2 rw bt s t b) 16) 16
def seenP (rw : Nat → Bool) (bt : Nat → Nat → Nat) (f : Nat → Int32) (s t : Nat) : Nat → Int32 := fun b => if b < 625 then nI (sm (fun s => sm (fun t => pair2 rw bt s t b) 16) s + sm (fun t => pair2 rw bt s t b) t) else f b
def sumG (f : Nat → Int32) (c x : Nat) : Int32 := if D x c = 0 then f (x + 1 * 5 ^ c) + (f (x + 2 * 5 ^ c) + f (x + 3 * 5 ^ c) + f (x + 4 * 5 ^ c)) else if D x c = 2 then f x + f (x + 1 * 5 ^ c) + f (x + 2 * 5 ^ c) else f x
def sumP (f : Nat → Int32) (c N L : Nat) : Nat → Int32 := fun x => if x < N ∧ x - D x c * 5 ^ c < L then sumG f c x else f x
def halP (f : Nat → Int32) (L : Nat) : Nat → Int32 := fun x => if x < L ∧ tun x = x then f x / 2 else f x
def sumA (f : Nat → Int32) (N : Nat) : Nat → Nat → Int32
  | 0 => f
  | c + 1 => sumP (sumA f N c) c N N
def brkF (f : Nat → Int32) (C : Nat) : Nat → Int32 := halP (sumA f (5 ^ C) C) (5 ^ C)
def cp625 (f h : Nat → Int32) : Nat → Int32 := va_cpy f h 0 0 625
def recG (g : Sg) : Sg := us (us g 46 (seenP (rwC g) (btw (tn (g 1 0)) (nmC g)) (g 46) 16 0)) 47 (brkF (cp625 (seenP (rwC g) (btw (tn (g 1 0)) (nmC g)) (g 46) 16 0) (g 47)) (tn (g 1 0)))
def wid (n c : Nat) : Nat := n - (if 2 < D n c then D n c - 2 else D n c) * 5 ^ c
def hwn (f : Nat → Int32) (n : Nat) (b : Int32) : Bool := !al (fun c => !(!decide (wid n c = n) && !decide (wid n c = 0) && decide (f (wid n c) ≤ b))) 4
def fnd (f : Nat → Int32) (n : Nat) (b m : Int32) : Bool := decide (f n ≤ b) && decide (nI (cols n) ≤ m) && decide (n ≤ tun n) && !hwn f n b
def lky (f : Nat → Int32) (n : Nat) : Bool := decide (f (alk n) = 0) && al (fun c => !(decide (n / 2 ^ c % 2 = 1) && decide (f (alk (n - 2 ^ c)) = 0))) 4
-- the model
def rwM (g : Sg) (j : Nat) : Bool := decide (g 52 (8 * j) = 1)
def nmM (g : Sg) (s c : Nat) : Int32 := g 52 (8 * s + (4 + c))
def plI (c : Int32) : Int32 := if c = 0 then 1 else if c = 1 then 5 else if c = 2 then 25 else 125
def dgM (v c : Int32) : Int32 := v / plI c - v / plI c / 5 * 5
def soD (d w : Nat) : Bool := if d = 2 then !decide (w = 1) else (decide (d = 0) || decide (d = w))
def soB (C : Nat) (nm : Nat → Nat → Int32) (n s t : Nat) : Bool := al (fun c => soD (D n c) (wd (nm s c) (nm t c))) C
def brB (C : Nat) (rw : Nat → Bool) (nm : Nat → Nat → Int32) (n s t : Nat) : Bool := rw s && rw t && (soB C nm n s t || soB C nm n t s)
def brN (C : Nat) (rw : Nat → Bool) (nm : Nat → Nat → Int32) (n : Nat) : Nat := sm (fun s => sm (fun i => ct1 (brB C rw nm n s (s + 1 + i))) (15 - s)) 16
def saD (a b : Nat) : Bool := decide (b = 0) || decide (a = b) || (decide (b = 2) && decide (2 < a))
def saB (n m : Nat) : Bool := al (fun c => saD (D n c) (D m c)) 4
def isd (n m : Nat) : Bool := saB n m || saB n (tun m)
def lnq (q : Nat) : Nat := match shAt SH q with
  | some (_, n, _) => n
  | none => 0
def filOK (q : Nat) : Bool := decide (q = 2) || decide (q = 6) || decide (q = 46)
def isRing (q : Nat) : Bool := decide (q = 9) || decide (q = 15) || decide (q = 21) || decide (q = 27) || decide (q = 33) || decide (q = 39)
def cpOK (d s : Nat) : Bool := (decide (d = 1) && isRing s) || (decide (s = 1) && isRing d)
def cpS (g : Sg) (s d : Nat) : Sg := us (us (us (us (us (us g d (upd (g d) 0 (g s 0))) (d + 1) (va_cpy (g (s + 1)) (g (d + 1)) 0 0 16)) (d + 2) (va_cpy (g (s + 2)) (g (d + 2)) 0 0 16)) (d + 3) (va_cpy (g (s + 3)) (g (d + 3)) 0 0 16)) (d + 4) (va_cpy (g (s + 4)) (g (d + 4)) 0 0 64)) (d + 5) (va_cpy (g (s + 5)) (g (d + 5)) 0 0 4)
def pw5 (c N : Nat) : Bool := !al (fun C => !(decide (c < C) && decide (N = 5 ^ C))) 5
