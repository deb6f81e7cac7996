/-! WHAT THE STRETCHES DO -/
def f_X5_finds : Mf := (fun as g => match as with
  | [.inr (some 51), .inl a1, .inl a2] => (gM g)
  | _ => false, fun as g => match as with
  | [.inr (some 51), .inl a1, .inl a2] => (some (.inl (b2i (csB a1 a2))), (if csB a1 a2 = true then fndM g a1 a2 else g))
  | _ => (none, g))
def ev_X5_finds : Nat → Mf := fun j => (match Nat.beq j 100 with | true => f_X5_isSaid | false => (match Nat.beq j 91 with | true => f_X5_turned | false => (match Nat.beq j 102 with | true => f_X5_size | false => (match Nat.beq j 92 with | true => f_X5_least0 | false => (match Nat.beq j 96 with | true => f_X5_broken0 | false => (match Nat.beq j 87 with | true => f_X5_most | false => (match Nat.beq j 64 with | true => f_X5_isIn | false => (fun _ _ => false, fun _ g => (none, g)))))))))
def K_X5_finds : List (Nat × Nat) := [(23, 4), (64, 4), (107, 6)]
set_option maxRecDepth 100000 in
theorem blk_X5_finds_0 (E : Ex) (g : Sg) (a1 a2 : Int32) : seg (T_X5_finds E ev_X5_finds) K_X5_finds 2000 0 [some (.inr (some 51)), some (.inl a1), some (.inl a2)] [] g = (if (b2i (isI a1 (nI 0) (nI 120))) = 0 then some (.inl (some (.inl (nI 0)), g)) else (if (b2i (isI a2 (nI 1) (nI 4))) = 0 then some (.inl (some (.inl (nI 0)), g)) else some (.inr (23, [some (.inr (some 51)), some (.inl a1), some (.inl a2), some (.inl (nI 1))], [], g)))) := by rfl
set_option maxRecDepth 100000 in
theorem blk_X5_finds_23 (E : Ex) (g : Sg) (x1 x2 x3 : Int32) : seg (T_X5_finds E ev_X5_finds) K_X5_finds 2000 23 [some (.inr (some 51)), some (.inl x1), some (.inl x2), some (.inl x3)] [] g = (if (inB (g 52 128) 5) = true then (if (nI (5 ^ tn (g 52 128))) ≤ x3 then some (.inr (64, [some (.inr (some 51)), some (.inl x1), some (.inl x2), some (.inl (nI 1))], [], (us g 51 (upd (g 51) 6 (nI 0))))) else (if (inB x3 625 && inB (g 52 128) 5) = true then (if x1 < (nI (brN (tn (g 52 128)) (rwM g) (nmM g) (tn x3))) then (if inB x3 625 = true then some (.inr (23, [some (.inr (some 51)), some (.inl x1), some (.inl x2), some (.inl (x3 + nI 1))], [], (us g 55 (upd (g 55) x3.toNatClampNeg (nI 0))))) else none) else (if inB x3 625 = true then some (.inr (23, [some (.inr (some 51)), some (.inl x1), some (.inl x2), some (.inl (x3 + nI 1))], [], (us g 55 (upd (g 55) x3.toNatClampNeg (nI 1))))) else none)) else none)) else none) := by rfl
set_option maxRecDepth 100000 in
theorem blk_X5_finds_64 (E : Ex) (g : Sg) (x1 x2 x3 : Int32) : seg (T_X5_finds E ev_X5_finds) K_X5_finds 2000 64 [some (.inr (some 51)), some (.inl x1), some (.inl x2), some (.inl x3)] [] g = (if (inB (g 52 128) 5) = true then (if (nI (5 ^ tn (g 52 128))) ≤ x3 then some (.inl (some (.inl (nI 1)), g)) else (if inB x3 625 = true then (if (g 55 x3.toNatClampNeg) = 0 then some (.inr (64, [some (.inr (some 51)), some (.inl x1), some (.inl x2), some (.inl (x3 + nI 1))], [], g)) else (if (inB x3 625) = true then (if (nI (min (tn x3) (tun (tn x3)))) = x3 then (if (inB x3 625) = true then (if (nI (cols (tn x3))) ≤ x2 then some (.inr (107, [some (.inr (some 51)), some (.inl x1), some (.inl x2), some (.inl x3), some (.inl (nI 1)), some (.inl (nI 1))], [], g)) else some (.inr (64, [some (.inr (some 51)), some (.inl x1), some (.inl x2), some (.inl (x3 + nI 1))], [], g))) else none) else some (.inr (64, [some (.inr (some 51)), some (.inl x1), some (.inl x2), some (.inl (x3 + nI 1))], [], g))) else none)) else none)) else none) := by rfl
set_option maxRecDepth 100000 in
theorem blk_X5_finds_107 (E : Ex) (g : Sg) (x1 x2 x3 x4 x5 : Int32) : seg (T_X5_finds E ev_X5_finds) K_X5_finds 2000 107 [some (.inr (some 51)), some (.inl x1), some (.inl x2), some (.inl x3), some (.inl x4), some (.inl x5)] [] g = (if (inB (g 52 128) 5) = true then (if (nI (5 ^ tn (g 52 128))) ≤ x5 then (if x4 = 0 then some (.inr (64, [some (.inr (some 51)), some (.inl x1), some (.inl x2), some (.inl (x3 + nI 1))], [], g)) else (if inB (g 51 6) 625 = true then some (.inr (64, [some (.inr (some 51)), some (.inl x1), some (.inl x2), some (.inl (x3 + nI 1))], [], (us (us g 56 (upd (g 56) (g 51 6).toNatClampNeg x3)) 51 (upd (g 51) 6 ((g 51 6) + (nI 1)))))) else none)) else (if x4 = 0 then (if x4 = 0 then some (.inr (64, [some (.inr (some 51)), some (.inl x1), some (.inl x2), some (.inl (x3 + nI 1))], [], g)) else (if inB (g 51 6) 625 = true then some (.inr (64, [some (.inr (some 51)), some (.inl x1), some (.inl x2), some (.inl (x3 + nI 1))], [], (us (us g 56 (upd (g 56) (g 51 6).toNatClampNeg x3)) 51 (upd (g 51) 6 ((g 51 6) + (nI 1)))))) else none)) else (if inB x5 625 = true then (if (g 55 x5.toNatClampNeg) = 0 then some (.inr (107, [some (.inr (some 51)), some (.inl x1), some (.inl x2), some (.inl x3), some (.inl (nI 1)), some (.inl (x5 + nI 1))], [], g)) else (if x5 = x3 then some (.inr (107, [some (.inr (some 51)), some (.inl x1), some (.inl x2), some (.inl x3), some (.inl (nI 1)), some (.inl (x5 + nI 1))], [], g)) else (if (inB x3 625) = true then (if x5 = (nI (tun (tn x3))) then some (.inr (107, [some (.inr (some 51)), some (.inl x1), some (.inl x2), some (.inl x3), some (.inl (nI 1)), some (.inl (x5 + nI 1))], [], g)) else (if (inB x3 625 && inB x5 625) = true then (if (b2i (isd (tn x3) (tn x5))) = 0 then some (.inr (107, [some (.inr (some 51)), some (.inl x1), some (.inl x2), some (.inl x3), some (.inl (nI 1)), some (.inl (x5 + nI 1))], [], g)) else some (.inr (107, [some (.inr (some 51)), some (.inl x1), some (.inl x2), some (.inl x3), some (.inl (nI 0)), some (.inl (x5 + nI 1))], [], g))) else none)) else none))) else none))) else none) := by rfl
def f_X5_laws : Mf := (fun as g => match as with
  | [.inr (some 51), .inl a1, .inl a2] => (gM g)
  | _ => false, fun as g => match as with
  | [.inr (some 51), .inl a1, .inl a2] => (some (.inl (if csB a1 a2 = true then nI (fmN g a1 a2) else -1)), (if csB a1 a2 = true then fndM g a1 a2 else g))
  | _ => (none, g))
def ev_X5_laws : Nat → Mf := fun j => (match Nat.beq j 103 with | true => f_X5_finds | false => (fun _ _ => false, fun _ g => (none, g)))
def K_X5_laws : List (Nat × Nat) := []
set_option maxRecDepth 100000 in
theorem blk_X5_laws_0 (E : Ex) (g : Sg) (a1 a2 : Int32) : seg (T_X5_laws E ev_X5_laws) K_X5_laws 2000 0 [some (.inr (some 51)), some (.inl a1), some (.inl a2)] [] g = (if (gM g) = true then (if (b2i (csB a1 a2)) = 0 then some (.inl (some (.inl (-1)), (if csB a1 a2 = true then fndM g a1 a2 else g))) else some (.inl (some (.inl ((if csB a1 a2 = true then fndM g a1 a2 else g) 51 6)), (if csB a1 a2 = true then fndM g a1 a2 else g)))) else none) := by rfl
def f_X5_law : Mf := (fun as g => match as with
  | [.inr (some 51), .inl a1, .inl a2, .inl a3] => (gM g)
  | _ => false, fun as g => match as with
  | [.inr (some 51), .inl a1, .inl a2, .inl a3] => (some (.inl (if (csB a1 a2 && inB a3 (fmN g a1 a2)) = true then fndM g a1 a2 56 (tn a3) else -1)), (if csB a1 a2 = true then fndM g a1 a2 else g))
  | _ => (none, g))
def ev_X5_law : Nat → Mf := fun j => (match Nat.beq j 64 with | true => f_X5_isIn | false => (match Nat.beq j 103 with | true => f_X5_finds | false => (fun _ _ => false, fun _ g => (none, g))))
def K_X5_law : List (Nat × Nat) := []
set_option maxRecDepth 100000 in
theorem blk_X5_law_0 (E : Ex) (g : Sg) (a1 a2 a3 : Int32) : seg (T_X5_law E ev_X5_law) K_X5_law 2000 0 [some (.inr (some 51)), some (.inl a1), some (.inl a2), some (.inl a3)] [] g = (if (gM g) = true then (if (b2i (csB a1 a2)) = 0 then some (.inl (some (.inl (-1)), (if csB a1 a2 = true then fndM g a1 a2 else g))) else (if (b2i (isI a3 (nI 0) (((if csB a1 a2 = true then fndM g a1 a2 else g) 51 6) - (nI 1)))) = 0 then some (.inl (some (.inl (-1)), (if csB a1 a2 = true then fndM g a1 a2 else g))) else (if inB a3 625 = true then some (.inl (some (.inl ((if csB a1 a2 = true then fndM g a1 a2 else g) 56 a3.toNatClampNeg)), (if csB a1 a2 = true then fndM g a1 a2 else g))) else none))) else none) := by rfl
def f_X5_isSet : Mf := (fun as g => match as with
  | [.inr (some 51), .inl a1] => (gM g)
  | _ => false, fun as g => match as with
  | [.inr (some 51), .inl a1] => (some (.inl (b2i (inB a1 (2 ^ tn (g 52 128))))), g)
  | _ => (none, g))
def ev_X5_isSet : Nat → Mf := fun j => (match Nat.beq j 64 with | true => f_X5_isIn | false => (match Nat.beq j 65 with | true => f_X5_columns | false => (fun _ _ => false, fun _ g => (none, g))))
def K_X5_isSet : List (Nat × Nat) := []
set_option maxRecDepth 100000 in
theorem blk_X5_isSet_0 (E : Ex) (g : Sg) (a1 : Int32) : seg (T_X5_isSet E ev_X5_isSet) K_X5_isSet 2000 0 [some (.inr (some 51)), some (.inl a1)] [] g = (if isB (b2i (isI a1 (nI 0) (((nI 1) <<< ((g 52 128) &&& nI 31)) - (nI 1)))) = true then some (.inl (some (.inl (b2i (isI a1 (nI 0) (((nI 1) <<< ((g 52 128) &&& nI 31)) - (nI 1))))), g)) else none) := by rfl
def f_X5_alikeIn : Mf := (fun as g => match as with
  | [.inr (some 51), .inl a1, .inl a2, .inl a3] => (inB a1 16 && inB a2 16 && inB a3 16 && gM g)
  | _ => false, fun as g => match as with
  | [.inr (some 51), .inl a1, .inl a2, .inl a3] => (some (.inl (b2i (ali (tn (g 52 128)) (nmM g) (tn a3) (tn a1) (tn a2)))), g)
  | _ => (none, g))
def ev_X5_alikeIn : Nat → Mf := fun j => (match Nat.beq j 81 with | true => f_X5_step | false => (match Nat.beq j 65 with | true => f_X5_columns | false => (fun _ _ => false, fun _ g => (none, g))))
def K_X5_alikeIn : List (Nat × Nat) := [(3, 5)]
set_option maxRecDepth 100000 in
theorem blk_X5_alikeIn_0 (E : Ex) (g : Sg) (a1 a2 a3 : Int32) : seg (T_X5_alikeIn E ev_X5_alikeIn) K_X5_alikeIn 2000 0 [some (.inr (some 51)), some (.inl a1), some (.inl a2), some (.inl a3)] [] g = some (.inr (3, [some (.inr (some 51)), some (.inl a1), some (.inl a2), some (.inl a3), some (.inl (nI 0))], [], g)) := by rfl
set_option maxRecDepth 100000 in
theorem blk_X5_alikeIn_3 (E : Ex) (g : Sg) (x1 x2 x3 x4 : Int32) : seg (T_X5_alikeIn E ev_X5_alikeIn) K_X5_alikeIn 2000 3 [some (.inr (some 51)), some (.inl x1), some (.inl x2), some (.inl x3), some (.inl x4)] [] g = (if (g 52 128) ≤ x4 then some (.inl (some (.inl (nI 1)), g)) else (if ((x3 >>> (x4 &&& nI 31)) &&& (nI 1)) = (nI 1) then (if (inB x1 16 && inB x2 16 && inB x4 4) = true then (if (nI (wd (nmM g (tn x1) (tn x4)) (nmM g (tn x2) (tn x4)))) = (nI 1) then some (.inr (3, [some (.inr (some 51)), some (.inl x1), some (.inl x2), some (.inl x3), some (.inl (x4 + nI 1))], [], g)) else some (.inl (some (.inl (nI 0)), g))) else none) else some (.inr (3, [some (.inr (some 51)), some (.inl x1), some (.inl x2), some (.inl x3), some (.inl (x4 + nI 1))], [], g)))) := by rfl
def f_X5_settles : Mf := (fun as g => match as with
  | [.inr (some 51), .inl a1] => (gM g)
  | _ => false, fun as g => match as with
  | [.inr (some 51), .inl a1] => (some (.inl (if inB a1 (2 ^ tn (g 52 128)) = true then nI (mskN (stP (rwM g) (tn (g 52 128)) (nmM g) (tn a1) 16 0) (tn (g 52 128))) else -1)), g)
  | _ => (none, g))
def ev_X5_settles : Nat → Mf := fun j => (match Nat.beq j 81 with | true => f_X5_step | false => (match Nat.beq j 108 with | true => f_X5_alikeIn | false => (match Nat.beq j 68 with | true => f_X5_isRow | false => (match Nat.beq j 65 with | true => f_X5_columns | false => (match Nat.beq j 107 with | true => f_X5_isSet | false => (fun _ _ => false, fun _ g => (none, g)))))))
def K_X5_settles : List (Nat × Nat) := [(21, 4), (30, 5), (77, 6)]
set_option maxRecDepth 100000 in
theorem blk_X5_settles_0 (E : Ex) (g : Sg) (a1 : Int32) : seg (T_X5_settles E ev_X5_settles) K_X5_settles 2000 0 [some (.inr (some 51)), some (.inl a1)] [] g = (if (gM g) = true then (if (b2i (inB a1 (2 ^ tn (g 52 128)))) = 0 then some (.inl (some (.inl (-1)), g)) else some (.inr (21, [some (.inr (some 51)), some (.inl a1), some (.inl (((nI 1) <<< ((g 52 128) &&& nI 31)) - (nI 1))), some (.inl (nI 0))], [], g))) else none) := by rfl
set_option maxRecDepth 100000 in
theorem blk_X5_settles_21 (E : Ex) (g : Sg) (x1 x2 x3 : Int32) : seg (T_X5_settles E ev_X5_settles) K_X5_settles 2000 21 [some (.inr (some 51)), some (.inl x1), some (.inl x2), some (.inl x3)] [] g = (if (nI 16) ≤ x3 then some (.inl (some (.inl x2), g)) else some (.inr (30, [some (.inr (some 51)), some (.inl x1), some (.inl x2), some (.inl x3), some (.inl (nI 0))], [], g))) := by rfl
set_option maxRecDepth 100000 in
theorem blk_X5_settles_30 (E : Ex) (g : Sg) (x1 x2 x3 x4 : Int32) : seg (T_X5_settles E ev_X5_settles) K_X5_settles 2000 30 [some (.inr (some 51)), some (.inl x1), some (.inl x2), some (.inl x3), some (.inl x4)] [] g = (if (nI 16) ≤ x4 then some (.inr (21, [some (.inr (some 51)), some (.inl x1), some (.inl x2), some (.inl (x3 + nI 1))], [], g)) else (if x3 = x4 then some (.inr (30, [some (.inr (some 51)), some (.inl x1), some (.inl x2), some (.inl x3), some (.inl (x4 + nI 1))], [], g)) else (if (b2i (inB x3 16 && rwM g (tn x3))) = 0 then some (.inr (30, [some (.inr (some 51)), some (.inl x1), some (.inl x2), some (.inl x3), some (.inl (x4 + nI 1))], [], g)) else (if (b2i (inB x4 16 && rwM g (tn x4))) = 0 then some (.inr (30, [some (.inr (some 51)), some (.inl x1), some (.inl x2), some (.inl x3), some (.inl (x4 + nI 1))], [], g)) else (if (inB x3 16 && inB x4 16 && inB x1 16 && gM g) = true then (if (b2i (ali (tn (g 52 128)) (nmM g) (tn x1) (tn x3) (tn x4))) = 0 then some (.inr (30, [some (.inr (some 51)), some (.inl x1), some (.inl x2), some (.inl x3), some (.inl (x4 + nI 1))], [], g)) else some (.inr (77, [some (.inr (some 51)), some (.inl x1), some (.inl x2), some (.inl x3), some (.inl x4), some (.inl (nI 0))], [], g))) else none))))) := by rfl
set_option maxRecDepth 100000 in
theorem blk_X5_settles_77 (E : Ex) (g : Sg) (x1 x2 x3 x4 x5 : Int32) : seg (T_X5_settles E ev_X5_settles) K_X5_settles 2000 77 [some (.inr (some 51)), some (.inl x1), some (.inl x2), some (.inl x3), some (.inl x4), some (.inl x5)] [] g = (if (g 52 128) ≤ x5 then some (.inr (30, [some (.inr (some 51)), some (.inl x1), some (.inl x2), some (.inl x3), some (.inl (x4 + nI 1))], [], g)) else (if (inB x3 16 && inB x4 16 && inB x5 4) = true then (if (nI (wd (nmM g (tn x3) (tn x5)) (nmM g (tn x4) (tn x5)))) = (nI 1) then some (.inr (77, [some (.inr (some 51)), some (.inl x1), some (.inl x2), some (.inl x3), some (.inl x4), some (.inl (x5 + nI 1))], [], g)) else some (.inr (77, [some (.inr (some 51)), some (.inl x1), some (.inl (x2 &&& (((nI 1) <<< (x5 &&& nI 31)) ^^^ (-1)))), some (.inl x3), some (.inl x4), some (.inl (x5 + nI 1))], [], g))) else none)) := by rfl
def f_X5_isKey : Mf := (fun as g => match as with
  | [.inr (some 51), .inl a1] => (inB a1 16 && gM g)
  | _ => false, fun as g => match as with
  | [.inr (some 51), .inl a1] => (some (.inl (b2i (keyB (tn (g 52 128)) (rwM g) (nmM g) (tn a1)))), g)
  | _ => (none, g))
def ev_X5_isKey : Nat → Mf := fun j => (match Nat.beq j 108 with | true => f_X5_alikeIn | false => (match Nat.beq j 68 with | true => f_X5_isRow | false => (fun _ _ => false, fun _ g => (none, g))))
def K_X5_isKey : List (Nat × Nat) := [(2, 3), (12, 4)]
set_option maxRecDepth 100000 in
theorem blk_X5_isKey_0 (E : Ex) (g : Sg) (a1 : Int32) : seg (T_X5_isKey E ev_X5_isKey) K_X5_isKey 2000 0 [some (.inr (some 51)), some (.inl a1)] [] g = some (.inr (2, [some (.inr (some 51)), some (.inl a1), some (.inl (nI 0))], [], g)) := by rfl
set_option maxRecDepth 100000 in
theorem blk_X5_isKey_2 (E : Ex) (g : Sg) (x1 x2 : Int32) : seg (T_X5_isKey E ev_X5_isKey) K_X5_isKey 2000 2 [some (.inr (some 51)), some (.inl x1), some (.inl x2)] [] g = (if (nI 16) ≤ x2 then some (.inl (some (.inl (nI 1)), g)) else some (.inr (12, [some (.inr (some 51)), some (.inl x1), some (.inl x2), some (.inl (x2 + (nI 1)))], [], g))) := by rfl
set_option maxRecDepth 100000 in
theorem blk_X5_isKey_12 (E : Ex) (g : Sg) (x1 x2 x3 : Int32) : seg (T_X5_isKey E ev_X5_isKey) K_X5_isKey 2000 12 [some (.inr (some 51)), some (.inl x1), some (.inl x2), some (.inl x3)] [] g = (if (nI 16) ≤ x3 then some (.inr (2, [some (.inr (some 51)), some (.inl x1), some (.inl (x2 + nI 1))], [], g)) else (if (b2i (inB x2 16 && rwM g (tn x2))) = 0 then some (.inr (12, [some (.inr (some 51)), some (.inl x1), some (.inl x2), some (.inl (x3 + nI 1))], [], g)) else (if (b2i (inB x3 16 && rwM g (tn x3))) = 0 then some (.inr (12, [some (.inr (some 51)), some (.inl x1), some (.inl x2), some (.inl (x3 + nI 1))], [], g)) else (if (inB x2 16 && inB x3 16 && inB x1 16 && gM g) = true then (if (b2i (ali (tn (g 52 128)) (nmM g) (tn x1) (tn x2) (tn x3))) = 0 then some (.inr (12, [some (.inr (some 51)), some (.inl x1), some (.inl x2), some (.inl (x3 + nI 1))], [], g)) else some (.inl (some (.inl (nI 0)), g))) else none)))) := by rfl
def f_X5_isLeastKey : Mf := (fun as g => match as with
  | [.inr (some 51), .inl a1] => (inB a1 16 && gM g)
  | _ => false, fun as g => match as with
  | [.inr (some 51), .inl a1] => (some (.inl (b2i (lkB (tn (g 52 128)) (rwM g) (nmM g) (tn a1)))), g)
  | _ => (none, g))
def ev_X5_isLeastKey : Nat → Mf := fun j => (match Nat.beq j 110 with | true => f_X5_isKey | false => (fun _ _ => false, fun _ g => (none, g)))
def K_X5_isLeastKey : List (Nat × Nat) := [(12, 3)]
set_option maxRecDepth 100000 in
theorem blk_X5_isLeastKey_0 (E : Ex) (g : Sg) (a1 : Int32) : seg (T_X5_isLeastKey E ev_X5_isLeastKey) K_X5_isLeastKey 2000 0 [some (.inr (some 51)), some (.inl a1)] [] g = (if (inB a1 16 && gM g) = true then (if (b2i (keyB (tn (g 52 128)) (rwM g) (nmM g) (tn a1))) = 0 then some (.inl (some (.inl (nI 0)), g)) else some (.inr (12, [some (.inr (some 51)), some (.inl a1), some (.inl (nI 0))], [], g))) else none) := by rfl
set_option maxRecDepth 100000 in
theorem blk_X5_isLeastKey_12 (E : Ex) (g : Sg) (x1 x2 : Int32) : seg (T_X5_isLeastKey E ev_X5_isLeastKey) K_X5_isLeastKey 2000 12 [some (.inr (some 51)), some (.inl x1), some (.inl x2)] [] g = (if x1 ≤ x2 then some (.inl (some (.inl (nI 1)), g)) else (if (x2 &&& (x1 ^^^ (-1))) = 0 then (if (inB x2 16 && gM g) = true then (if (b2i (keyB (tn (g 52 128)) (rwM g) (nmM g) (tn x2))) = 0 then some (.inr (12, [some (.inr (some 51)), some (.inl x1), some (.inl (x2 + nI 1))], [], g)) else some (.inl (some (.inl (nI 0)), g))) else none) else some (.inr (12, [some (.inr (some 51)), some (.inl x1), some (.inl (x2 + nI 1))], [], g)))) := by rfl
def f_X5_keys : Mf := (fun as g => match as with
  | [.inr (some 51)] => (gM g)
  | _ => false, fun as g => match as with
  | [.inr (some 51)] => (some (.inl (nI (sm (fun n => ct1 (lkB (tn (g 52 128)) (rwM g) (nmM g) n)) (2 ^ tn (g 52 128))))), g)
  | _ => (none, g))
def ev_X5_keys : Nat → Mf := fun j => (match Nat.beq j 111 with | true => f_X5_isLeastKey | false => (match Nat.beq j 65 with | true => f_X5_columns | false => (fun _ _ => false, fun _ g => (none, g))))
def K_X5_keys : List (Nat × Nat) := [(4, 3)]
set_option maxRecDepth 100000 in
theorem blk_X5_keys_0 (E : Ex) (g : Sg) : seg (T_X5_keys E ev_X5_keys) K_X5_keys 2000 0 [some (.inr (some 51))] [] g = some (.inr (4, [some (.inr (some 51)), some (.inl (nI 0)), some (.inl (nI 0))], [], g)) := by rfl
set_option maxRecDepth 100000 in
theorem blk_X5_keys_4 (E : Ex) (g : Sg) (x1 x2 : Int32) : seg (T_X5_keys E ev_X5_keys) K_X5_keys 2000 4 [some (.inr (some 51)), some (.inl x1), some (.inl x2)] [] g = (if ((nI 1) <<< ((g 52 128) &&& nI 31)) ≤ x2 then some (.inl (some (.inl x1), g)) else (if (inB x2 16 && gM g) = true then (if (b2i (lkB (tn (g 52 128)) (rwM g) (nmM g) (tn x2))) = 0 then some (.inr (4, [some (.inr (some 51)), some (.inl (x1 + (nI 0))), some (.inl (x2 + nI 1))], [], g)) else some (.inr (4, [some (.inr (some 51)), some (.inl (x1 + (nI 1))), some (.inl (x2 + nI 1))], [], g))) else none)) := by rfl
def f_X5_key : Mf := (fun as g => match as with
  | [.inr (some 51), .inl a1] => (gM g)
  | _ => false, fun as g => match as with
  | [.inr (some 51), .inl a1] => (some (.inl (if 0 ≤ a1 then finV (fin (lkB (tn (g 52 128)) (rwM g) (nmM g)) (2 ^ tn (g 52 128)) 0 (tn a1)) else -1)), g)
  | _ => (none, g))
def ev_X5_key : Nat → Mf := fun j => (match Nat.beq j 111 with | true => f_X5_isLeastKey | false => (match Nat.beq j 65 with | true => f_X5_columns | false => (fun _ _ => false, fun _ g => (none, g))))
def K_X5_key : List (Nat × Nat) := [(4, 4)]
set_option maxRecDepth 100000 in
theorem blk_X5_key_0 (E : Ex) (g : Sg) (a1 : Int32) : seg (T_X5_key E ev_X5_key) K_X5_key 2000 0 [some (.inr (some 51)), some (.inl a1)] [] g = some (.inr (4, [some (.inr (some 51)), some (.inl a1), some (.inl (nI 0)), some (.inl (nI 0))], [], g)) := by rfl
set_option maxRecDepth 100000 in
theorem blk_X5_key_4 (E : Ex) (g : Sg) (x1 x2 x3 : Int32) : seg (T_X5_key E ev_X5_key) K_X5_key 2000 4 [some (.inr (some 51)), some (.inl x1), some (.inl x2), some (.inl x3)] [] g = (if ((nI 1) <<< ((g 52 128) &&& nI 31)) ≤ x3 then some (.inl (some (.inl (-1)), g)) else (if (inB x3 16 && gM g) = true then (if (b2i (lkB (tn (g 52 128)) (rwM g) (nmM g) (tn x3))) = 0 then some (.inr (4, [some (.inr (some 51)), some (.inl x1), some (.inl x2), some (.inl (x3 + nI 1))], [], g)) else (if x2 = x1 then some (.inl (some (.inl x3), g)) else some (.inr (4, [some (.inr (some 51)), some (.inl x1), some (.inl (x2 + nI 1)), some (.inl (x3 + nI 1))], [], g)))) else none)) := by rfl
