/-! THE WORDS: the model's calls -/
def gM (g : Sg) : Bool := inB (g 52 128) 5
def gK (g : Sg) : Bool := inB (g 51 2) 7
def shF (f : Nat → Int32) (n : Nat) : Nat → Int32 := fun j => if j < n then f (j + 133) else f j
def copF (f h : Nat → Int32) (o n : Nat) : Nat → Int32 := fun j => if o ≤ j ∧ j < o + n then h (j - o) else f j
def kpN (g : Sg) : Nat := if g 51 2 = 6 then 5 else tn (g 51 2)
def kpF (g : Sg) : Nat → Int32 := if g 51 2 = 6 then shF (g 53) 665 else g 53
def keepM (g : Sg) : Sg := us (us g 53 (copF (kpF g) (g 52) (133 * kpN g) 133)) 51 (upd (g 51) 2 (nI (kpN g + 1)))
def undM (g : Sg) : Sg := us (us g 51 (upd (g 51) 2 (g 51 2 - nI 1))) 52 (copF (g 52) (fun j => g 53 (133 * (tn (g 51 2) - 1) + j)) 0 133)
def tabM (g : Sg) (c : Int32) : Sg := us (keepM g) 52 (upd (filF (keepM g 52) 133 0) 128 c)
def putM (g : Sg) (s k n a b c d : Int32) : Sg := us (keepM g) 52 (upd (upd (upd (upd (upd (upd (upd (upd (keepM g 52) (8 * tn s + 0) 1) (8 * tn s + 1) k) (8 * tn s + 2) n) (8 * tn s + 3) 1) (8 * tn s + (4 + 0)) (wr1 (if n ≤ 0 then 100 else a))) (8 * tn s + (4 + 1)) (wr1 (if n ≤ 1 then 100 else b))) (8 * tn s + (4 + 2)) (wr1 (if n ≤ 2 then 100 else c))) (8 * tn s + (4 + 3)) (wr1 (if n ≤ 3 then 100 else d)))
def rowM (g : Sg) (s : Int32) : Bool := inB s 16 && rwM g (tn s)
def colM (g : Sg) (c : Int32) : Bool := isI c 0 (g 52 128 - 1)
def chM (g : Sg) (s c v : Int32) : Bool := rowM g s && colM g c && decide (c < g 52 (8 * tn s + 2)) && fitB (g 52 (8 * tn s + 1)) v
def chgM (g : Sg) (s c v : Int32) : Sg := us (keepM g) 52 (upd (keepM g 52) (8 * tn s + (4 + tn c)) (wr1 v))
def strM (g : Sg) (s : Int32) : Sg := us (keepM g) 52 (upd (keepM g 52) (8 * tn s + 0) 0)
def priM (g : Sg) (s v : Int32) : Sg := us (keepM g) 52 (upd (keepM g 52) (8 * tn s + 3) v)
def swOK (g : Sg) (c d : Int32) (s : Nat) : Bool := !(rwM g s && (decide (g 52 (8 * s + 2) ≤ c) || decide (g 52 (8 * s + 2) ≤ d)))
def swM (g : Sg) (c d : Int32) : Bool := colM g c && colM g d && al (swOK g c d) 16
def swF (f : Nat → Int32) (c d n : Nat) : Nat → Int32 := fun j => if j < 8 * n ∧ f (8 * (j / 8)) = 1 then (if j % 8 = 4 + c then f (8 * (j / 8) + (4 + d)) else if j % 8 = 4 + d then f (8 * (j / 8) + (4 + c)) else f j) else f j
def swpM (g : Sg) (c d : Int32) : Sg := us (keepM g) 52 (swF (keepM g 52) (tn c) (tn d) 16)
def atM (g : Sg) (s c : Int32) : Int32 := if (rowM g s && colM g c) = true then g 52 (8 * tn s + (4 + tn c)) else 1001
def rwvM (g : Sg) (s w : Int32) : Int32 := if inB s 16 = true then (if w = 0 then g 52 (8 * tn s + 0) else if (rwM g (tn s) && isI w 1 3) = true then (if w = 1 then g 52 (8 * tn s + 1) else if w = 2 then g 52 (8 * tn s + 2) else g 52 (8 * tn s + 3)) else -1) else -1
def betM (g : Sg) (s t : Int32) : Int32 := if (rowM g s && rowM g t && !decide (s = t)) = true then nI (btw (tn (g 52 128)) (nmM g) (tn s) (tn t)) else -1
def cntM (g : Sg) : Sg := us g 54 (seenP (rwM g) (btw (tn (g 52 128)) (nmM g)) (g 54) 16 0)
def prM (g : Sg) (b : Int32) : Bool := inB b (5 ^ tn (g 52 128)) && al (fun c => !decide (D (tn b) c = 0)) (tn (g 52 128))
def srtM (n : Nat) : Int32 := if cnU n 4 = 0 ∧ cnO n 4 = 0 then 0 else if cnU n 4 = 1 ∧ cnO n 4 = 0 then 1 else if 1 < cnO n 4 then 2 else 3
def tlM (g : Sg) (i law : Int32) : Sg := us (keepM g) 52 (upd (keepM g 52) (129 + tn i) law)
-- laws
def nrF (g : Sg) (b : Int32) (N : Nat) (f : Nat → Int32) : Nat → Int32 := fun n => if 1 ≤ n ∧ n < N then b2i (decide (nI (brN (tn (g 52 128)) (rwM g) (nmM g) n) ≤ b)) else f n
def aloB (ne : Nat → Int32) (n k : Nat) : Bool := decide (ne k = 0) || decide (k = n) || decide (k = tun n) || !isd n k
def okM (ne : Nat → Int32) (N n : Nat) (m : Int32) : Bool := !decide (ne n = 0) && decide (min n (tun n) = n) && decide (nI (cols n) ≤ m) && al (fun i => aloB ne n (1 + i)) (N - 1)
def fdN (ne : Nat → Int32) (N : Nat) (m : Int32) : Nat → Nat := sm (fun i => ct1 (okM ne N (1 + i) m))
def fdF (ne : Nat → Int32) (N : Nat) (m : Int32) (f : Nat → Int32) : Nat → Nat → Int32
  | 0 => f
  | i + 1 => if okM ne N (1 + i) m = true then upd (fdF ne N m f i) (fdN ne N m i) (nI (1 + i)) else fdF ne N m f i
def nrM (g : Sg) (b : Int32) : Nat → Int32 := nrF g b (5 ^ tn (g 52 128)) (g 55)
def fndM (g : Sg) (b m : Int32) : Sg := us (us (us g 55 (nrM g b)) 51 (upd (g 51) 6 (nI (fdN (nrM g b) (5 ^ tn (g 52 128)) m (5 ^ tn (g 52 128) - 1))))) 56 (fdF (nrM g b) (5 ^ tn (g 52 128)) m (g 56) (5 ^ tn (g 52 128) - 1))
def fmN (g : Sg) (b m : Int32) : Nat := fdN (nrM g b) (5 ^ tn (g 52 128)) m (5 ^ tn (g 52 128) - 1)
-- sets
def bit (n c : Nat) : Bool := decide (n / 2 ^ c % 2 = 1)
def ali (C : Nat) (nm : Nat → Nat → Int32) (n s t : Nat) : Bool := al (fun c => !(bit n c && !decide (wd (nm s c) (nm t c) = 1))) C
def keyB (C : Nat) (rw : Nat → Bool) (nm : Nat → Nat → Int32) (n : Nat) : Bool := al (fun s => al (fun i => !(rw s && rw (s + 1 + i) && ali C nm n s (s + 1 + i))) (15 - s)) 16
def lkB (C : Nat) (rw : Nat → Bool) (nm : Nat → Nat → Int32) (n : Nat) : Bool := keyB C rw nm n && al (fun p => !(decide (p &&& (15 - n) = 0) && keyB C rw nm p)) n
def mskN (P : Nat → Bool) : Nat → Nat := sm (fun c => if P c = true then 2 ^ c else 0)
def stB (rw : Nat → Bool) (C : Nat) (nm : Nat → Nat → Int32) (n s t c : Nat) : Bool := decide (s = t) || !rw s || !rw t || !ali C nm n s t || decide (wd (nm s c) (nm t c) = 1)
def stP (rw : Nat → Bool) (C : Nat) (nm : Nat → Nat → Int32) (n s t c : Nat) : Bool := al (fun s => al (fun t => stB rw C nm n s t c) 16) s && al (fun t => stB rw C nm n s t c) t
