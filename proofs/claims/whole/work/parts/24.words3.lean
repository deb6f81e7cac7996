/-! THE WORDS: the class's searches -/
def fin (P : Nat → Bool) : Nat → Nat → Nat → Nat ⊕ Nat
  | 0, _, a => .inr a
  | n + 1, t, a => if P t = true then (if a = 0 then .inl t else fin P n (t + 1) (a - 1)) else fin P n (t + 1) a
def fou (P : Nat → Nat → Bool) : Nat → Nat → Nat → Option (Nat × Nat)
  | 0, _, _ => none
  | n + 1, s, a => match fin (P s) (15 - s) (s + 1) a with
    | .inl t => some (s, t)
    | .inr a' => fou P n (s + 1) a'
def pickV (w : Int32) : Option (Nat × Nat) → Int32
  | some p => if w = 0 then nI p.1 else nI p.2
  | none => -1
def finV : Nat ⊕ Nat → Int32
  | .inl n => nI n
  | .inr _ => -1
def bkB (C : Nat) (law k w : Int32) : Bool := lawB C law && decide (0 ≤ k) && isI w 0 1
def csB (b m : Int32) : Bool := isI b 0 120 && isI m 1 4
def sett (f : Nat → Int32) (n : Nat) : Nat → Nat
  | 0 => n
  | c + 1 => if n / 2 ^ c % 2 = 0 ∧ f (alk n + 2 * 5 ^ c) = 0 then sett f n c ||| 2 ^ c else sett f n c
