/-! WHAT THE STRETCHES DO -/
def f_X4_isSlot : Mf := (fun as g => match as with
  | [.inl a0] => true
  | _ => false, fun as g => match as with
  | [.inl a0] => (some (.inl (b2i (inB a0 16))), g)
  | _ => (none, g))
def ev_X4_isSlot : Nat → Mf := fun j => (fun _ _ => false, fun _ g => (none, g))
def K_X4_isSlot : List (Nat × Nat) := []
set_option maxRecDepth 100000 in
theorem blk_X4_isSlot_0 (E : Ex) (g : Sg) (a0 : Int32) : seg (T_X4_isSlot E ev_X4_isSlot) K_X4_isSlot 2000 0 [some (.inl a0)] [] g = (if a0 < 0 then some (.inl (some (.inl (nI 0)), g)) else (if (nI 16) ≤ a0 then some (.inl (some (.inl (nI 0)), g)) else some (.inl (some (.inl (nI 1)), g)))) := by rfl
def f_X4_fits : Mf := (fun as g => match as with
  | [.inl a0, .inl a1] => true
  | _ => false, fun as g => match as with
  | [.inl a0, .inl a1] => (some (.inl (b2i (fitB a0 a1))), g)
  | _ => (none, g))
def ev_X4_fits : Nat → Mf := fun j => (fun _ _ => false, fun _ g => (none, g))
def K_X4_fits : List (Nat × Nat) := []
set_option maxRecDepth 100000 in
theorem blk_X4_fits_0 (E : Ex) (g : Sg) (a0 a1 : Int32) : seg (T_X4_fits E ev_X4_fits) K_X4_fits 2000 0 [some (.inl a0), some (.inl a1)] [] g = (if a1 < (-99) then (if a0 = (nI 4) then (if a1 = (nI 100) then some (.inl (some (.inl (nI 1)), g)) else some (.inl (some (.inl (nI 0)), g))) else some (.inl (some (.inl (nI 0)), g))) else (if a1 ≤ (nI 99) then some (.inl (some (.inl (nI 1)), g)) else (if a0 = (nI 4) then (if a1 = (nI 100) then some (.inl (some (.inl (nI 1)), g)) else some (.inl (some (.inl (nI 0)), g))) else some (.inl (some (.inl (nI 0)), g))))) := by rfl
def f_X4_canSeek : Mf := (fun as g => match as with
  | [.inl a0, .inl a1] => true
  | _ => false, fun as g => match as with
  | [.inl a0, .inl a1] => (some (.inl (b2i (isI a0 0 120 && isI a1 1 4))), g)
  | _ => (none, g))
def ev_X4_canSeek : Nat → Mf := fun j => (fun _ _ => false, fun _ g => (none, g))
def K_X4_canSeek : List (Nat × Nat) := []
set_option maxRecDepth 100000 in
theorem blk_X4_canSeek_0 (E : Ex) (g : Sg) (a0 a1 : Int32) : seg (T_X4_canSeek E ev_X4_canSeek) K_X4_canSeek 2000 0 [some (.inl a0), some (.inl a1)] [] g = (if a0 < 0 then some (.inl (some (.inl (nI 0)), g)) else (if (nI 120) < a0 then some (.inl (some (.inl (nI 0)), g)) else (if a1 < (nI 1) then some (.inl (some (.inl (nI 0)), g)) else (if (nI 4) < a1 then some (.inl (some (.inl (nI 0)), g)) else some (.inl (some (.inl (nI 1)), g)))))) := by rfl
def f_X4_isLaw : Mf := (fun as g => match as with
  | [.inr (some 0), .inl a1] => (inB (g 1 0) 5)
  | _ => false, fun as g => match as with
  | [.inr (some 0), .inl a1] => (some (.inl (b2i (lawB (tn (g 1 0)) a1))), g)
  | _ => (none, g))
def ev_X4_isLaw : Nat → Mf := fun j => (fun _ _ => false, fun _ g => (none, g))
def K_X4_isLaw : List (Nat × Nat) := []
set_option maxRecDepth 100000 in
theorem blk_X4_isLaw_0 (E : Ex) (g : Sg) (a1 : Int32) : seg (T_X4_isLaw E ev_X4_isLaw) K_X4_isLaw 2000 0 [some (.inr (some 0)), some (.inl a1)] [] g = (if a1 ≤ 0 then some (.inl (some (.inl (nI 0)), g)) else (if inB (g 1 0) 5 = true then (if (fiv (g 1 0).toNatClampNeg) ≤ a1 then some (.inl (some (.inl (nI 0)), g)) else some (.inl (some (.inl (nI 1)), g))) else none)) := by rfl
def f_X4_digitOf : Mf := (fun as g => match as with
  | [.inl a0, .inl a1] => (inB a0 625 && inB a1 5)
  | _ => false, fun as g => match as with
  | [.inl a0, .inl a1] => (some (.inl (nI (D (tn a0) (tn a1)))), g)
  | _ => (none, g))
def ev_X4_digitOf : Nat → Mf := fun j => (fun _ _ => false, fun _ g => (none, g))
def K_X4_digitOf : List (Nat × Nat) := []
set_option maxRecDepth 100000 in
theorem blk_X4_digitOf_0 (E : Ex) (g : Sg) (a0 a1 : Int32) : seg (T_X4_digitOf E ev_X4_digitOf) K_X4_digitOf 2000 0 [some (.inl a0), some (.inl a1)] [] g = (if inB a1 5 = true then (if (fiv a1.toNatClampNeg) = 0 then none else some (.inl (some (.inl ((a0 / (fiv a1.toNatClampNeg)) - (a0 / (fiv a1.toNatClampNeg)) / (nI 5) * (nI 5))), g))) else none) := by rfl
def f_X4_columnsOf : Mf := (fun as g => match as with
  | [.inl a0] => (inB a0 625)
  | _ => false, fun as g => match as with
  | [.inl a0] => (some (.inl (nI (cols (tn a0)))), g)
  | _ => (none, g))
def ev_X4_columnsOf : Nat → Mf := fun j => (match Nat.beq j 59 with | true => f_X4_digitOf | false => (fun _ _ => false, fun _ g => (none, g)))
def K_X4_columnsOf : List (Nat × Nat) := [(4, 3)]
set_option maxRecDepth 100000 in
theorem blk_X4_columnsOf_0 (E : Ex) (g : Sg) (a0 : Int32) : seg (T_X4_columnsOf E ev_X4_columnsOf) K_X4_columnsOf 2000 0 [some (.inl a0)] [] g = some (.inr (4, [some (.inl a0), some (.inl (nI 0)), some (.inl (nI 0))], [], g)) := by rfl
set_option maxRecDepth 100000 in
theorem blk_X4_columnsOf_4 (E : Ex) (g : Sg) (x0 x1 x2 : Int32) : seg (T_X4_columnsOf E ev_X4_columnsOf) K_X4_columnsOf 2000 4 [some (.inl x0), some (.inl x1), some (.inl x2)] [] g = (if (nI 4) ≤ x2 then some (.inl (some (.inl x1), g)) else (if (inB x0 625 && inB x2 5) = true then (if (nI (D (tn x0) (tn x2))) = 0 then some (.inr (4, [some (.inl x0), some (.inl x1), some (.inl (x2 + nI 1))], [], g)) else some (.inr (4, [some (.inl x0), some (.inl (x1 + nI 1)), some (.inl (x2 + nI 1))], [], g))) else none)) := by rfl
def f_X4_turnedOf : Mf := (fun as g => match as with
  | [.inl a0] => (inB a0 625)
  | _ => false, fun as g => match as with
  | [.inl a0] => (some (.inl (nI (tun (tn a0)))), g)
  | _ => (none, g))
def ev_X4_turnedOf : Nat → Mf := fun j => (match Nat.beq j 59 with | true => f_X4_digitOf | false => (fun _ _ => false, fun _ g => (none, g)))
def K_X4_turnedOf : List (Nat × Nat) := [(4, 3)]
set_option maxRecDepth 100000 in
theorem blk_X4_turnedOf_0 (E : Ex) (g : Sg) (a0 : Int32) : seg (T_X4_turnedOf E ev_X4_turnedOf) K_X4_turnedOf 2000 0 [some (.inl a0)] [] g = some (.inr (4, [some (.inl a0), some (.inl a0), some (.inl (nI 0))], [], g)) := by rfl
set_option maxRecDepth 100000 in
theorem blk_X4_turnedOf_4 (E : Ex) (g : Sg) (x0 x1 x2 : Int32) : seg (T_X4_turnedOf E ev_X4_turnedOf) K_X4_turnedOf 2000 4 [some (.inl x0), some (.inl x1), some (.inl x2)] [] g = (if (nI 4) ≤ x2 then some (.inl (some (.inl x1), g)) else (if (inB x0 625 && inB x2 5) = true then (if (nI (D (tn x0) (tn x2))) = (nI 3) then (if inB x2 5 = true then some (.inr (4, [some (.inl x0), some (.inl (x1 + (fiv x2.toNatClampNeg))), some (.inl (x2 + nI 1))], [], g)) else none) else (if (nI (D (tn x0) (tn x2))) = (nI 4) then (if inB x2 5 = true then some (.inr (4, [some (.inl x0), some (.inl (x1 - (fiv x2.toNatClampNeg))), some (.inl (x2 + nI 1))], [], g)) else none) else some (.inr (4, [some (.inl x0), some (.inl x1), some (.inl (x2 + nI 1))], [], g)))) else none)) := by rfl
def f_X4_covers : Mf := (fun as g => match as with
  | [.inl a0, .inl a1] => (inB a0 625 && inB a1 625)
  | _ => false, fun as g => match as with
  | [.inl a0, .inl a1] => (some (.inl (b2i (cov (tn a0) (tn a1)))), g)
  | _ => (none, g))
def ev_X4_covers : Nat → Mf := fun j => (match Nat.beq j 59 with | true => f_X4_digitOf | false => (fun _ _ => false, fun _ g => (none, g)))
def K_X4_covers : List (Nat × Nat) := [(2, 3)]
set_option maxRecDepth 100000 in
theorem blk_X4_covers_0 (E : Ex) (g : Sg) (a0 a1 : Int32) : seg (T_X4_covers E ev_X4_covers) K_X4_covers 2000 0 [some (.inl a0), some (.inl a1)] [] g = some (.inr (2, [some (.inl a0), some (.inl a1), some (.inl (nI 0))], [], g)) := by rfl
set_option maxRecDepth 100000 in
theorem blk_X4_covers_2 (E : Ex) (g : Sg) (x0 x1 x2 : Int32) : seg (T_X4_covers E ev_X4_covers) K_X4_covers 2000 2 [some (.inl x0), some (.inl x1), some (.inl x2)] [] g = (if (nI 4) ≤ x2 then some (.inl (some (.inl (nI 1)), g)) else (if (inB x0 625 && inB x2 5) = true then (if (inB x1 625 && inB x2 5) = true then (if (nI (D (tn x0) (tn x2))) = (nI 2) then (if (nI 2) ≤ (nI (D (tn x1) (tn x2))) then some (.inr (2, [some (.inl x0), some (.inl x1), some (.inl (x2 + nI 1))], [], g)) else some (.inl (some (.inl (nI 0)), g))) else (if (nI (D (tn x0) (tn x2))) = 0 then some (.inr (2, [some (.inl x0), some (.inl x1), some (.inl (x2 + nI 1))], [], g)) else (if (nI (D (tn x0) (tn x2))) = (nI (D (tn x1) (tn x2))) then some (.inr (2, [some (.inl x0), some (.inl x1), some (.inl (x2 + nI 1))], [], g)) else some (.inl (some (.inl (nI 0)), g))))) else none) else none)) := by rfl
def f_X4_alikeLaw : Mf := (fun as g => match as with
  | [.inl a0] => (inB a0 16)
  | _ => false, fun as g => match as with
  | [.inl a0] => (some (.inl (nI (alk (tn a0)))), g)
  | _ => (none, g))
def ev_X4_alikeLaw : Nat → Mf := fun j => (fun _ _ => false, fun _ g => (none, g))
def K_X4_alikeLaw : List (Nat × Nat) := [(4, 3)]
set_option maxRecDepth 100000 in
theorem blk_X4_alikeLaw_0 (E : Ex) (g : Sg) (a0 : Int32) : seg (T_X4_alikeLaw E ev_X4_alikeLaw) K_X4_alikeLaw 2000 0 [some (.inl a0)] [] g = some (.inr (4, [some (.inl a0), some (.inl (nI 0)), some (.inl (nI 0))], [], g)) := by rfl
set_option maxRecDepth 100000 in
theorem blk_X4_alikeLaw_4 (E : Ex) (g : Sg) (x0 x1 x2 : Int32) : seg (T_X4_alikeLaw E ev_X4_alikeLaw) K_X4_alikeLaw 2000 4 [some (.inl x0), some (.inl x1), some (.inl x2)] [] g = (if (nI 4) ≤ x2 then some (.inl (some (.inl x1), g)) else (if ((x0 >>> (x2 &&& nI 31)) &&& (nI 1)) = (nI 1) then (if inB x2 5 = true then some (.inr (4, [some (.inl x0), some (.inl (x1 + ((nI 1) * (fiv x2.toNatClampNeg)))), some (.inl (x2 + nI 1))], [], g)) else none) else some (.inr (4, [some (.inl x0), some (.inl x1), some (.inl (x2 + nI 1))], [], g)))) := by rfl
def f_X2_word : Mf := (fun as g => match as with
  | [.inl a0, .inl a1] => true
  | _ => false, fun as g => match as with
  | [.inl a0, .inl a1] => (some (.inl (nI (wd a0 a1))), g)
  | _ => (none, g))
def ev_X2_word : Nat → Mf := fun j => (fun _ _ => false, fun _ g => (none, g))
def K_X2_word : List (Nat × Nat) := []
set_option maxRecDepth 100000 in
theorem blk_X2_word_0 (E : Ex) (g : Sg) (a0 a1 : Int32) : seg (T_X2_word E ev_X2_word) K_X2_word 2000 0 [some (.inl a0), some (.inl a1)] [] g = (if a0 = (nI 1000) then some (.inl (some (.inl (nI 2)), g)) else (if a1 = (nI 1000) then some (.inl (some (.inl (nI 2)), g)) else (if a0 = a1 then some (.inl (some (.inl (nI 1)), g)) else (if a1 ≤ a0 then some (.inl (some (.inl (nI 4)), g)) else some (.inl (some (.inl (nI 3)), g)))))) := by rfl
def f_X2_hasRow : Mf := (fun as g => match as with
  | [.inr (some 1), .inl a1] => true
  | _ => false, fun as g => match as with
  | [.inr (some 1), .inl a1] => (some (.inl (b2i (inB a1 16 && rwC g (tn a1)))), g)
  | _ => (none, g))
def ev_X2_hasRow : Nat → Mf := fun j => (match Nat.beq j 56 with | true => f_X4_isSlot | false => (fun _ _ => false, fun _ g => (none, g)))
def K_X2_hasRow : List (Nat × Nat) := []
set_option maxRecDepth 100000 in
theorem blk_X2_hasRow_0 (E : Ex) (g : Sg) (a1 : Int32) : seg (T_X2_hasRow E ev_X2_hasRow) K_X2_hasRow 2000 0 [some (.inr (some 1)), some (.inl a1)] [] g = (if (b2i (inB a1 16)) = 0 then some (.inl (some (.inl (nI 0)), g)) else (if inB a1 16 = true then (if (g 2 a1.toNatClampNeg) = (-1) then some (.inl (some (.inl (nI 0)), g)) else some (.inl (some (.inl (nI 1)), g))) else none)) := by rfl
def f_X2_hasColumn : Mf := (fun as g => match as with
  | [.inr (some 1), .inl a1] => true
  | _ => false, fun as g => match as with
  | [.inr (some 1), .inl a1] => (some (.inl (b2i (decide (0 ≤ a1) && decide (a1 < g 1 0)))), g)
  | _ => (none, g))
def ev_X2_hasColumn : Nat → Mf := fun j => (fun _ _ => false, fun _ g => (none, g))
def K_X2_hasColumn : List (Nat × Nat) := []
set_option maxRecDepth 100000 in
theorem blk_X2_hasColumn_0 (E : Ex) (g : Sg) (a1 : Int32) : seg (T_X2_hasColumn E ev_X2_hasColumn) K_X2_hasColumn 2000 0 [some (.inr (some 1)), some (.inl a1)] [] g = (if a1 < 0 then some (.inl (some (.inl (nI 0)), g)) else (if (g 1 0) ≤ a1 then some (.inl (some (.inl (nI 0)), g)) else some (.inl (some (.inl (nI 1)), g)))) := by rfl
def f_X2_read : Mf := (fun as g => match as with
  | [.inr (some 1), .inl a1, .inl a2] => (inB (a1 * nI 4 + a2) 64)
  | _ => false, fun as g => match as with
  | [.inr (some 1), .inl a1, .inl a2] => (some (.inl (g 5 (a1 * nI 4 + a2).toNatClampNeg)), g)
  | _ => (none, g))
def ev_X2_read : Nat → Mf := fun j => (fun _ _ => false, fun _ g => (none, g))
def K_X2_read : List (Nat × Nat) := []
set_option maxRecDepth 100000 in
theorem blk_X2_read_0 (E : Ex) (g : Sg) (a1 a2 : Int32) : seg (T_X2_read E ev_X2_read) K_X2_read 2000 0 [some (.inr (some 1)), some (.inl a1), some (.inl a2)] [] g = (if inB ((a1 * (nI 4)) + a2) 64 = true then some (.inl (some (.inl (g 5 ((a1 * (nI 4)) + a2).toNatClampNeg)), g)) else none) := by rfl
def f_X2_write : Mf := (fun as g => match as with
  | [.inr (some 1), .inl a1, .inl a2, .inl a3] => (inB (a1 * nI 4 + a2) 64)
  | _ => false, fun as g => match as with
  | [.inr (some 1), .inl a1, .inl a2, .inl a3] => (none, (us g 5 (upd (g 5) (a1 * nI 4 + a2).toNatClampNeg (wr1 a3))))
  | _ => (none, g))
def ev_X2_write : Nat → Mf := fun j => (fun _ _ => false, fun _ g => (none, g))
def K_X2_write : List (Nat × Nat) := []
set_option maxRecDepth 100000 in
theorem blk_X2_write_0 (E : Ex) (g : Sg) (a1 a2 a3 : Int32) : seg (T_X2_write E ev_X2_write) K_X2_write 2000 0 [some (.inr (some 1)), some (.inl a1), some (.inl a2), some (.inl a3)] [] g = (if a3 = (nI 100) then (if inB ((a1 * (nI 4)) + a2) 64 = true then some (.inl (none, (us g 5 (upd (g 5) ((a1 * (nI 4)) + a2).toNatClampNeg (nI 1000))))) else none) else (if inB ((a1 * (nI 4)) + a2) 64 = true then some (.inl (none, (us g 5 (upd (g 5) ((a1 * (nI 4)) + a2).toNatClampNeg a3)))) else none)) := by rfl
def f_X2_seat : Mf := (fun as g => match as with
  | [.inr (some 1), .inl a1, .inl a2, .inl a3] => (inB a1 16)
  | _ => false, fun as g => match as with
  | [.inr (some 1), .inl a1, .inl a2, .inl a3] => (none, (us (us (us g 2 (upd (g 2) (tn a1) a2)) 3 (upd (g 3) (tn a1) a3)) 4 (upd (g 4) (tn a1) 1)))
  | _ => (none, g))
def ev_X2_seat : Nat → Mf := fun j => (fun _ _ => false, fun _ g => (none, g))
def K_X2_seat : List (Nat × Nat) := []
set_option maxRecDepth 100000 in
theorem blk_X2_seat_0 (E : Ex) (g : Sg) (a1 a2 a3 : Int32) : seg (T_X2_seat E ev_X2_seat) K_X2_seat 2000 0 [some (.inr (some 1)), some (.inl a1), some (.inl a2), some (.inl a3)] [] g = (if inB a1 16 = true then (if inB a1 16 = true then (if inB a1 16 = true then some (.inl (none, (us (us (us g 2 (upd (g 2) a1.toNatClampNeg a2)) 3 (upd (g 3) a1.toNatClampNeg a3)) 4 (upd (g 4) a1.toNatClampNeg (nI 1))))) else none) else none) else none) := by rfl
def f_X2_shortest : Mf := (fun as g => match as with
  | [.inr (some 1)] => true
  | _ => false, fun as g => match as with
  | [.inr (some 1)] => (some (.inl (shC g 16)), g)
  | _ => (none, g))
def ev_X2_shortest : Nat → Mf := fun j => (match Nat.beq j 11 with | true => f_X2_hasRow | false => (fun _ _ => false, fun _ g => (none, g)))
def K_X2_shortest : List (Nat × Nat) := [(4, 3)]
set_option maxRecDepth 100000 in
theorem blk_X2_shortest_0 (E : Ex) (g : Sg) : seg (T_X2_shortest E ev_X2_shortest) K_X2_shortest 2000 0 [some (.inr (some 1))] [] g = some (.inr (4, [some (.inr (some 1)), some (.inl (nI 4)), some (.inl (nI 0))], [], g)) := by rfl
set_option maxRecDepth 100000 in
theorem blk_X2_shortest_4 (E : Ex) (g : Sg) (x1 x2 : Int32) : seg (T_X2_shortest E ev_X2_shortest) K_X2_shortest 2000 4 [some (.inr (some 1)), some (.inl x1), some (.inl x2)] [] g = (if (nI 16) ≤ x2 then some (.inl (some (.inl x1), g)) else (if (b2i (inB x2 16 && rwC g (tn x2))) = 0 then some (.inr (4, [some (.inr (some 1)), some (.inl x1), some (.inl (x2 + nI 1))], [], g)) else (if inB x2 16 = true then some (.inr (4, [some (.inr (some 1)), some (.inl (minI x1 (g 3 x2.toNatClampNeg))), some (.inl (x2 + nI 1))], [], g)) else none))) := by rfl
def f_X2_exchange : Mf := (fun as g => match as with
  | [.inr (some 1), .inl a1, .inl a2] => (inB a1 4 && inB a2 4)
  | _ => false, fun as g => match as with
  | [.inr (some 1), .inl a1, .inl a2] => (none, (us g 5 (exN (g 5) (tn a1) (tn a2) 16)))
  | _ => (none, g))
def ev_X2_exchange : Nat → Mf := fun j => (fun _ _ => false, fun _ g => (none, g))
def K_X2_exchange : List (Nat × Nat) := [(2, 4)]
set_option maxRecDepth 100000 in
theorem blk_X2_exchange_0 (E : Ex) (g : Sg) (a1 a2 : Int32) : seg (T_X2_exchange E ev_X2_exchange) K_X2_exchange 2000 0 [some (.inr (some 1)), some (.inl a1), some (.inl a2)] [] g = some (.inr (2, [some (.inr (some 1)), some (.inl a1), some (.inl a2), some (.inl (nI 0))], [], g)) := by rfl
set_option maxRecDepth 100000 in
theorem blk_X2_exchange_2 (E : Ex) (g : Sg) (x1 x2 x3 : Int32) : seg (T_X2_exchange E ev_X2_exchange) K_X2_exchange 2000 2 [some (.inr (some 1)), some (.inl x1), some (.inl x2), some (.inl x3)] [] g = (if (nI 16) ≤ x3 then some (.inl (none, g)) else (if inB ((x3 * (nI 4)) + x1) 64 = true then (if inB ((x3 * (nI 4)) + x2) 64 = true then (if inB ((x3 * (nI 4)) + x1) 64 = true then (if inB ((x3 * (nI 4)) + x2) 64 = true then some (.inr (2, [some (.inr (some 1)), some (.inl x1), some (.inl x2), some (.inl (x3 + nI 1))], [], (us (us g 5 (upd (g 5) ((x3 * (nI 4)) + x1).toNatClampNeg (g 5 ((x3 * (nI 4)) + x2).toNatClampNeg))) 5 (upd (upd (g 5) ((x3 * (nI 4)) + x1).toNatClampNeg (g 5 ((x3 * (nI 4)) + x2).toNatClampNeg)) ((x3 * (nI 4)) + x2).toNatClampNeg (g 5 ((x3 * (nI 4)) + x1).toNatClampNeg))))) else none) else none) else none) else none)) := by rfl
def f_X2_compared : Mf := (fun as g => match as with
  | [.inr (some 1), .inl a1, .inl a2] => (inB a1 16 && inB a2 16 && inB (g 1 0) 5)
  | _ => false, fun as g => match as with
  | [.inr (some 1), .inl a1, .inl a2] => (some (.inl (nI (btw (tn (g 1 0)) (nmC g) (tn a1) (tn a2)))), g)
  | _ => (none, g))
def ev_X2_compared : Nat → Mf := fun j => (match Nat.beq j 19 with | true => f_X2_word | false => (match Nat.beq j 15 with | true => f_X2_read | false => (fun _ _ => false, fun _ g => (none, g))))
def K_X2_compared : List (Nat × Nat) := [(5, 5)]
set_option maxRecDepth 100000 in
theorem blk_X2_compared_0 (E : Ex) (g : Sg) (a1 a2 : Int32) : seg (T_X2_compared E ev_X2_compared) K_X2_compared 2000 0 [some (.inr (some 1)), some (.inl a1), some (.inl a2)] [] g = some (.inr (5, [some (.inr (some 1)), some (.inl a1), some (.inl a2), some (.inl (nI 0)), some (.inl (nI 0))], [], g)) := by rfl
set_option maxRecDepth 100000 in
theorem blk_X2_compared_5 (E : Ex) (g : Sg) (x1 x2 x3 x4 : Int32) : seg (T_X2_compared E ev_X2_compared) K_X2_compared 2000 5 [some (.inr (some 1)), some (.inl x1), some (.inl x2), some (.inl x3), some (.inl x4)] [] g = (if (g 1 0) ≤ x4 then some (.inl (some (.inl x3), g)) else (if inB x4 5 = true then (if (inB (x1 * nI 4 + x4) 64) = true then (if (inB (x2 * nI 4 + x4) 64) = true then some (.inr (5, [some (.inr (some 1)), some (.inl x1), some (.inl x2), some (.inl (x3 + ((fiv x4.toNatClampNeg) * (nI (wd (g 5 (x1 * nI 4 + x4).toNatClampNeg) (g 5 (x2 * nI 4 + x4).toNatClampNeg)))))), some (.inl (x4 + nI 1))], [], g)) else none) else none) else none)) := by rfl
def f_X2_pairBreaks : Mf := (fun as g => match as with
  | [.inr (some 1), .inl a1, .inl a2, .inl a3] => (inB a1 16 && inB a2 16 && inB (g 1 0) 5 && inB a3 625)
  | _ => false, fun as g => match as with
  | [.inr (some 1), .inl a1, .inl a2, .inl a3] => (some (.inl (b2i (pbC g (tn a1) (tn a2) (tn a3)))), g)
  | _ => (none, g))
def ev_X2_pairBreaks : Nat → Mf := fun j => (match Nat.beq j 61 with | true => f_X4_turnedOf | false => (match Nat.beq j 62 with | true => f_X4_covers | false => (match Nat.beq j 18 with | true => f_X2_compared | false => (match Nat.beq j 11 with | true => f_X2_hasRow | false => (fun _ _ => false, fun _ g => (none, g))))))
def K_X2_pairBreaks : List (Nat × Nat) := []
set_option maxRecDepth 100000 in
theorem blk_X2_pairBreaks_0 (E : Ex) (g : Sg) (a1 a2 a3 : Int32) : seg (T_X2_pairBreaks E ev_X2_pairBreaks) K_X2_pairBreaks 2000 0 [some (.inr (some 1)), some (.inl a1), some (.inl a2), some (.inl a3)] [] g = (if (b2i (inB a1 16 && rwC g (tn a1))) = 0 then some (.inl (some (.inl (nI 0)), g)) else (if (b2i (inB a2 16 && rwC g (tn a2))) = 0 then some (.inl (some (.inl (nI 0)), g)) else (if (inB a1 16 && inB a2 16 && inB (g 1 0) 5) = true then (if (inB a3 625 && inB (nI (btw (tn (g 1 0)) (nmC g) (tn a1) (tn a2))) 625) = true then (if (b2i (cov (tn a3) (tn (nI (btw (tn (g 1 0)) (nmC g) (tn a1) (tn a2)))))) = 0 then (if (inB a3 625) = true then (if (inB (nI (tun (tn a3))) 625 && inB (nI (btw (tn (g 1 0)) (nmC g) (tn a1) (tn a2))) 625) = true then (if (b2i (cov (tn (nI (tun (tn a3)))) (tn (nI (btw (tn (g 1 0)) (nmC g) (tn a1) (tn a2)))))) = 0 then some (.inl (some (.inl (nI 0)), g)) else some (.inl (some (.inl (nI 1)), g))) else none) else none) else some (.inl (some (.inl (nI 1)), g))) else none) else none))) := by rfl
def f_X3_sumUp : Mf := (fun as g => match as with
  | [.inr (some 45), .inl a1, .inl a2] => (inB a1 4 && inB a2 626 && pw5 (tn a1) (tn a2))
  | _ => false, fun as g => match as with
  | [.inr (some 45), .inl a1, .inl a2] => (none, (us g 47 (sumP (g 47) (tn a1) (tn a2) (tn a2))))
  | _ => (none, g))
def ev_X3_sumUp : Nat → Mf := fun j => (match Nat.beq j 59 with | true => f_X4_digitOf | false => (fun _ _ => false, fun _ g => (none, g)))
def K_X3_sumUp : List (Nat × Nat) := [(9, 5)]
set_option maxRecDepth 100000 in
theorem blk_X3_sumUp_0 (E : Ex) (g : Sg) (a1 a2 : Int32) : seg (T_X3_sumUp E ev_X3_sumUp) K_X3_sumUp 2000 0 [some (.inr (some 45)), some (.inl a1), some (.inl a2)] [] g = (if inB a1 5 = true then some (.inr (9, [some (.inr (some 45)), some (.inl a1), some (.inl a2), some (.inl (fiv a1.toNatClampNeg)), some (.inl (nI 0))], [], g)) else none) := by rfl
set_option maxRecDepth 100000 in
theorem blk_X3_sumUp_9 (E : Ex) (g : Sg) (x1 x2 x3 x4 : Int32) : seg (T_X3_sumUp E ev_X3_sumUp) K_X3_sumUp 2000 9 [some (.inr (some 45)), some (.inl x1), some (.inl x2), some (.inl x3), some (.inl x4)] [] g = (if x2 ≤ x4 then some (.inl (none, g)) else (if (inB x4 625 && inB x1 5) = true then (if (nI (D (tn x4) (tn x1))) = 0 then (if inB (x4 + ((nI 2) * x3)) 625 = true then (if inB (x4 + ((nI 3) * x3)) 625 = true then (if inB (x4 + ((nI 4) * x3)) 625 = true then (if inB (x4 + ((nI 2) * x3)) 625 = true then (if inB (x4 + ((nI 1) * x3)) 625 = true then (if inB x4 625 = true then some (.inr (9, [some (.inr (some 45)), some (.inl x1), some (.inl x2), some (.inl x3), some (.inl (x4 + nI 1))], [], (us (us g 47 (upd (g 47) (x4 + ((nI 2) * x3)).toNatClampNeg (((g 47 (x4 + ((nI 2) * x3)).toNatClampNeg) + (g 47 (x4 + ((nI 3) * x3)).toNatClampNeg)) + (g 47 (x4 + ((nI 4) * x3)).toNatClampNeg)))) 47 (upd (upd (g 47) (x4 + ((nI 2) * x3)).toNatClampNeg (((g 47 (x4 + ((nI 2) * x3)).toNatClampNeg) + (g 47 (x4 + ((nI 3) * x3)).toNatClampNeg)) + (g 47 (x4 + ((nI 4) * x3)).toNatClampNeg))) x4.toNatClampNeg (((upd (g 47) (x4 + ((nI 2) * x3)).toNatClampNeg (((g 47 (x4 + ((nI 2) * x3)).toNatClampNeg) + (g 47 (x4 + ((nI 3) * x3)).toNatClampNeg)) + (g 47 (x4 + ((nI 4) * x3)).toNatClampNeg))) (x4 + ((nI 1) * x3)).toNatClampNeg) + (((g 47 (x4 + ((nI 2) * x3)).toNatClampNeg) + (g 47 (x4 + ((nI 3) * x3)).toNatClampNeg)) + (g 47 (x4 + ((nI 4) * x3)).toNatClampNeg))))))) else none) else none) else none) else none) else none) else none) else some (.inr (9, [some (.inr (some 45)), some (.inl x1), some (.inl x2), some (.inl x3), some (.inl (x4 + nI 1))], [], g))) else none)) := by rfl
def f_X3_halveEven : Mf := (fun as g => match as with
  | [.inr (some 45), .inl a1] => (inB a1 626)
  | _ => false, fun as g => match as with
  | [.inr (some 45), .inl a1] => (none, (us g 47 (halP (g 47) (tn a1))))
  | _ => (none, g))
def ev_X3_halveEven : Nat → Mf := fun j => (match Nat.beq j 61 with | true => f_X4_turnedOf | false => (fun _ _ => false, fun _ g => (none, g)))
def K_X3_halveEven : List (Nat × Nat) := [(2, 3)]
set_option maxRecDepth 100000 in
theorem blk_X3_halveEven_0 (E : Ex) (g : Sg) (a1 : Int32) : seg (T_X3_halveEven E ev_X3_halveEven) K_X3_halveEven 2000 0 [some (.inr (some 45)), some (.inl a1)] [] g = some (.inr (2, [some (.inr (some 45)), some (.inl a1), some (.inl (nI 0))], [], g)) := by rfl
set_option maxRecDepth 100000 in
theorem blk_X3_halveEven_2 (E : Ex) (g : Sg) (x1 x2 : Int32) : seg (T_X3_halveEven E ev_X3_halveEven) K_X3_halveEven 2000 2 [some (.inr (some 45)), some (.inl x1), some (.inl x2)] [] g = (if x1 ≤ x2 then some (.inl (none, g)) else (if (inB x2 625) = true then (if (nI (tun (tn x2))) = x2 then (if inB x2 625 = true then (if inB x2 625 = true then some (.inr (2, [some (.inr (some 45)), some (.inl x1), some (.inl (x2 + nI 1))], [], (us g 47 (upd (g 47) x2.toNatClampNeg ((g 47 x2.toNatClampNeg) / (nI 2)))))) else none) else none) else some (.inr (2, [some (.inr (some 45)), some (.inl x1), some (.inl (x2 + nI 1))], [], g))) else none)) := by rfl
def f_X3_unlikeSeen : Mf := (fun as g => match as with
  | [.inr (some 45)] => true
  | _ => false, fun as g => match as with
  | [.inr (some 45)] => (some (.inl (nI (sm (fun b => ct1 (!decide (g 46 b = 0))) 625))), g)
  | _ => (none, g))
def ev_X3_unlikeSeen : Nat → Mf := fun j => (fun _ _ => false, fun _ g => (none, g))
def K_X3_unlikeSeen : List (Nat × Nat) := [(4, 3)]
set_option maxRecDepth 100000 in
theorem blk_X3_unlikeSeen_0 (E : Ex) (g : Sg) : seg (T_X3_unlikeSeen E ev_X3_unlikeSeen) K_X3_unlikeSeen 2000 0 [some (.inr (some 45))] [] g = some (.inr (4, [some (.inr (some 45)), some (.inl (nI 0)), some (.inl (nI 0))], [], g)) := by rfl
set_option maxRecDepth 100000 in
theorem blk_X3_unlikeSeen_4 (E : Ex) (g : Sg) (x1 x2 : Int32) : seg (T_X3_unlikeSeen E ev_X3_unlikeSeen) K_X3_unlikeSeen 2000 4 [some (.inr (some 45)), some (.inl x1), some (.inl x2)] [] g = (if (nI 625) ≤ x2 then some (.inl (some (.inl x1), g)) else (if inB x2 625 = true then (if (g 46 x2.toNatClampNeg) = 0 then some (.inr (4, [some (.inr (some 45)), some (.inl x1), some (.inl (x2 + nI 1))], [], g)) else some (.inr (4, [some (.inr (some 45)), some (.inl (x1 + nI 1)), some (.inl (x2 + nI 1))], [], g))) else none)) := by rfl
def f_X3_hasWiderNear : Mf := (fun as g => match as with
  | [.inr (some 45), .inl a1, .inl a2] => (inB a1 625)
  | _ => false, fun as g => match as with
  | [.inr (some 45), .inl a1, .inl a2] => (some (.inl (b2i (hwn (g 47) (tn a1) a2))), g)
  | _ => (none, g))
def ev_X3_hasWiderNear : Nat → Mf := fun j => (match Nat.beq j 59 with | true => f_X4_digitOf | false => (fun _ _ => false, fun _ g => (none, g)))
def K_X3_hasWiderNear : List (Nat × Nat) := [(2, 4)]
set_option maxRecDepth 100000 in
theorem blk_X3_hasWiderNear_0 (E : Ex) (g : Sg) (a1 a2 : Int32) : seg (T_X3_hasWiderNear E ev_X3_hasWiderNear) K_X3_hasWiderNear 2000 0 [some (.inr (some 45)), some (.inl a1), some (.inl a2)] [] g = some (.inr (2, [some (.inr (some 45)), some (.inl a1), some (.inl a2), some (.inl (nI 0))], [], g)) := by rfl
set_option maxRecDepth 100000 in
theorem blk_X3_hasWiderNear_2 (E : Ex) (g : Sg) (x1 x2 x3 : Int32) : seg (T_X3_hasWiderNear E ev_X3_hasWiderNear) K_X3_hasWiderNear 2000 2 [some (.inr (some 45)), some (.inl x1), some (.inl x2), some (.inl x3)] [] g = (if (nI 4) ≤ x3 then some (.inl (some (.inl (nI 0)), g)) else (if (inB x1 625 && inB x3 5) = true then (if (nI (D (tn x1) (tn x3))) ≤ (nI 2) then (if inB x3 5 = true then (if (x1 - ((nI (D (tn x1) (tn x3))) * (fiv x3.toNatClampNeg))) = x1 then some (.inr (2, [some (.inr (some 45)), some (.inl x1), some (.inl x2), some (.inl (x3 + nI 1))], [], g)) else (if (x1 - ((nI (D (tn x1) (tn x3))) * (fiv x3.toNatClampNeg))) = 0 then some (.inr (2, [some (.inr (some 45)), some (.inl x1), some (.inl x2), some (.inl (x3 + nI 1))], [], g)) else (if inB (x1 - ((nI (D (tn x1) (tn x3))) * (fiv x3.toNatClampNeg))) 625 = true then (if x2 < (g 47 (x1 - ((nI (D (tn x1) (tn x3))) * (fiv x3.toNatClampNeg))).toNatClampNeg) then some (.inr (2, [some (.inr (some 45)), some (.inl x1), some (.inl x2), some (.inl (x3 + nI 1))], [], g)) else some (.inl (some (.inl (nI 1)), g))) else none))) else none) else (if inB x3 5 = true then (if (x1 - (((nI (D (tn x1) (tn x3))) - (nI 2)) * (fiv x3.toNatClampNeg))) = x1 then some (.inr (2, [some (.inr (some 45)), some (.inl x1), some (.inl x2), some (.inl (x3 + nI 1))], [], g)) else (if (x1 - (((nI (D (tn x1) (tn x3))) - (nI 2)) * (fiv x3.toNatClampNeg))) = 0 then some (.inr (2, [some (.inr (some 45)), some (.inl x1), some (.inl x2), some (.inl (x3 + nI 1))], [], g)) else (if inB (x1 - (((nI (D (tn x1) (tn x3))) - (nI 2)) * (fiv x3.toNatClampNeg))) 625 = true then (if x2 < (g 47 (x1 - (((nI (D (tn x1) (tn x3))) - (nI 2)) * (fiv x3.toNatClampNeg))).toNatClampNeg) then some (.inr (2, [some (.inr (some 45)), some (.inl x1), some (.inl x2), some (.inl (x3 + nI 1))], [], g)) else some (.inl (some (.inl (nI 1)), g))) else none))) else none)) else none)) := by rfl
def f_X3_isFound : Mf := (fun as g => match as with
  | [.inr (some 45), .inl a1, .inl a2, .inl a3] => (inB a1 625)
  | _ => false, fun as g => match as with
  | [.inr (some 45), .inl a1, .inl a2, .inl a3] => (some (.inl (b2i (fnd (g 47) (tn a1) a2 a3))), g)
  | _ => (none, g))
def ev_X3_isFound : Nat → Mf := fun j => (match Nat.beq j 26 with | true => f_X3_hasWiderNear | false => (match Nat.beq j 61 with | true => f_X4_turnedOf | false => (match Nat.beq j 60 with | true => f_X4_columnsOf | false => (fun _ _ => false, fun _ g => (none, g)))))
def K_X3_isFound : List (Nat × Nat) := []
set_option maxRecDepth 100000 in
theorem blk_X3_isFound_0 (E : Ex) (g : Sg) (a1 a2 a3 : Int32) : seg (T_X3_isFound E ev_X3_isFound) K_X3_isFound 2000 0 [some (.inr (some 45)), some (.inl a1), some (.inl a2), some (.inl a3)] [] g = (if inB a1 625 = true then (if a2 < (g 47 a1.toNatClampNeg) then some (.inl (some (.inl (nI 0)), g)) else (if (inB a1 625) = true then (if a3 < (nI (cols (tn a1))) then some (.inl (some (.inl (nI 0)), g)) else (if (inB a1 625) = true then (if (nI (tun (tn a1))) < a1 then some (.inl (some (.inl (nI 0)), g)) else (if (inB a1 625) = true then (if (b2i (hwn (g 47) (tn a1) a2)) = 0 then some (.inl (some (.inl (nI 1)), g)) else some (.inl (some (.inl (nI 0)), g))) else none)) else none)) else none)) else none) := by rfl
def f_X3_isLeastKey : Mf := (fun as g => match as with
  | [.inr (some 45), .inl a1] => (inB a1 16)
  | _ => false, fun as g => match as with
  | [.inr (some 45), .inl a1] => (some (.inl (b2i (lky (g 47) (tn a1)))), g)
  | _ => (none, g))
def ev_X3_isLeastKey : Nat → Mf := fun j => (match Nat.beq j 63 with | true => f_X4_alikeLaw | false => (fun _ _ => false, fun _ g => (none, g)))
def K_X3_isLeastKey : List (Nat × Nat) := [(16, 3)]
set_option maxRecDepth 100000 in
theorem blk_X3_isLeastKey_0 (E : Ex) (g : Sg) (a1 : Int32) : seg (T_X3_isLeastKey E ev_X3_isLeastKey) K_X3_isLeastKey 2000 0 [some (.inr (some 45)), some (.inl a1)] [] g = (if (inB a1 16) = true then (if inB (nI (alk (tn a1))) 625 = true then (if (g 47 (nI (alk (tn a1))).toNatClampNeg) = 0 then some (.inr (16, [some (.inr (some 45)), some (.inl a1), some (.inl (nI 0))], [], g)) else some (.inl (some (.inl (nI 0)), g))) else none) else none) := by rfl
set_option maxRecDepth 100000 in
theorem blk_X3_isLeastKey_16 (E : Ex) (g : Sg) (x1 x2 : Int32) : seg (T_X3_isLeastKey E ev_X3_isLeastKey) K_X3_isLeastKey 2000 16 [some (.inr (some 45)), some (.inl x1), some (.inl x2)] [] g = (if (nI 4) ≤ x2 then some (.inl (some (.inl (nI 1)), g)) else (if ((x1 >>> (x2 &&& nI 31)) &&& (nI 1)) = (nI 1) then (if (inB (x1 - ((nI 1) <<< (x2 &&& nI 31))) 16) = true then (if inB (nI (alk (tn (x1 - ((nI 1) <<< (x2 &&& nI 31)))))) 625 = true then (if (g 47 (nI (alk (tn (x1 - ((nI 1) <<< (x2 &&& nI 31)))))).toNatClampNeg) = 0 then some (.inl (some (.inl (nI 0)), g)) else some (.inr (16, [some (.inr (some 45)), some (.inl x1), some (.inl (x2 + nI 1))], [], g))) else none) else none) else some (.inr (16, [some (.inr (some 45)), some (.inl x1), some (.inl (x2 + nI 1))], [], g)))) := by rfl
def f_J7_fill_53178 : Mf := (fun as g => match as with
  | [.inr (some a0), .inl a1] => (filOK a0)
  | _ => false, fun as g => match as with
  | [.inr (some a0), .inl a1] => (none, (us g a0 (filF (g a0) (lnq a0) a1)))
  | _ => (none, g))
def ev_J7_fill_53178 : Nat → Mf := fun j => (fun _ _ => false, fun _ g => (none, g))
def K_J7_fill_53178 : List (Nat × Nat) := [(5, 4)]
set_option maxRecDepth 100000 in
theorem blk2_J7_fill_53178_0 (E : Ex) (g : Sg) (a1 : Int32) : seg (T_J7_fill_53178 E ev_J7_fill_53178) K_J7_fill_53178 2000 0 [some (.inr (some 2)), some (.inl a1)] [] g = some (.inr (5, [some (.inr (some 2)), some (.inl a1), some (.inl (nI 0)), some (.inl (nI 16))], [], g)) := by rfl
set_option maxRecDepth 100000 in
theorem blk2_J7_fill_53178_5 (E : Ex) (g : Sg) (x1 x2 x3 : Int32) : seg (T_J7_fill_53178 E ev_J7_fill_53178) K_J7_fill_53178 2000 5 [some (.inr (some 2)), some (.inl x1), some (.inl x2), some (.inl x3)] [] g = (if x3 ≤ x2 then some (.inl (none, g)) else (if inB x2 16 = true then some (.inr (5, [some (.inr (some 2)), some (.inl x1), some (.inl (x2 + nI 1)), some (.inl x3)], [], (us g 2 (upd (g 2) x2.toNatClampNeg x1)))) else none)) := by rfl
set_option maxRecDepth 100000 in
theorem blk6_J7_fill_53178_0 (E : Ex) (g : Sg) (a1 : Int32) : seg (T_J7_fill_53178 E ev_J7_fill_53178) K_J7_fill_53178 2000 0 [some (.inr (some 6)), some (.inl a1)] [] g = some (.inr (5, [some (.inr (some 6)), some (.inl a1), some (.inl (nI 0)), some (.inl (nI 4))], [], g)) := by rfl
set_option maxRecDepth 100000 in
theorem blk6_J7_fill_53178_5 (E : Ex) (g : Sg) (x1 x2 x3 : Int32) : seg (T_J7_fill_53178 E ev_J7_fill_53178) K_J7_fill_53178 2000 5 [some (.inr (some 6)), some (.inl x1), some (.inl x2), some (.inl x3)] [] g = (if x3 ≤ x2 then some (.inl (none, g)) else (if inB x2 4 = true then some (.inr (5, [some (.inr (some 6)), some (.inl x1), some (.inl (x2 + nI 1)), some (.inl x3)], [], (us g 6 (upd (g 6) x2.toNatClampNeg x1)))) else none)) := by rfl
set_option maxRecDepth 100000 in
theorem blk46_J7_fill_53178_0 (E : Ex) (g : Sg) (a1 : Int32) : seg (T_J7_fill_53178 E ev_J7_fill_53178) K_J7_fill_53178 2000 0 [some (.inr (some 46)), some (.inl a1)] [] g = some (.inr (5, [some (.inr (some 46)), some (.inl a1), some (.inl (nI 0)), some (.inl (nI 625))], [], g)) := by rfl
set_option maxRecDepth 100000 in
theorem blk46_J7_fill_53178_5 (E : Ex) (g : Sg) (x1 x2 x3 : Int32) : seg (T_J7_fill_53178 E ev_J7_fill_53178) K_J7_fill_53178 2000 5 [some (.inr (some 46)), some (.inl x1), some (.inl x2), some (.inl x3)] [] g = (if x3 ≤ x2 then some (.inl (none, g)) else (if inB x2 625 = true then some (.inr (5, [some (.inr (some 46)), some (.inl x1), some (.inl (x2 + nI 1)), some (.inl x3)], [], (us g 46 (upd (g 46) x2.toNatClampNeg x1)))) else none)) := by rfl
def f_X3_recount : Mf := (fun as g => match as with
  | [.inr (some 45), .inr (some 1)] => (inB (g 1 0) 5)
  | _ => false, fun as g => match as with
  | [.inr (some 45), .inr (some 1)] => (none, (recG g))
  | _ => (none, g))
def ev_X3_recount : Nat → Mf := fun j => (match Nat.beq j 23 with | true => f_X3_halveEven | false => (match Nat.beq j 22 with | true => f_X3_sumUp | false => (match Nat.beq j 18 with | true => f_X2_compared | false => (match Nat.beq j 11 with | true => f_X2_hasRow | false => (match Nat.beq j 119 with | true => f_J7_fill_53178 | false => (fun _ _ => false, fun _ g => (none, g)))))))
def K_X3_recount : List (Nat × Nat) := [(10, 3), (18, 4), (90, 3)]
set_option maxRecDepth 100000 in
theorem blk_X3_recount_0 (E : Ex) (g : Sg) : seg (T_X3_recount E ev_X3_recount) K_X3_recount 2000 0 [some (.inr (some 45)), some (.inr (some 1))] [] g = (if (filOK 46) = true then some (.inr (10, [some (.inr (some 45)), some (.inr (some 1)), some (.inl (nI 0))], [], (us g 46 (filF (g 46) (lnq 46) (nI 0))))) else none) := by rfl
set_option maxRecDepth 100000 in
theorem blk_X3_recount_10 (E : Ex) (g : Sg) (x2 : Int32) : seg (T_X3_recount E ev_X3_recount) K_X3_recount 2000 10 [some (.inr (some 45)), some (.inr (some 1)), some (.inl x2)] [] g = (if (nI 16) ≤ x2 then some (.inr (90, [some (.inr (some 45)), some (.inr (some 1)), some (.inl (nI 0))], [], (us g 47 (va_cpy (g 46) (g 47) 0 0 625)))) else some (.inr (18, [some (.inr (some 45)), some (.inr (some 1)), some (.inl x2), some (.inl (nI 0))], [], g))) := by rfl
set_option maxRecDepth 100000 in
theorem blk_X3_recount_90 (E : Ex) (g : Sg) (x2 : Int32) : seg (T_X3_recount E ev_X3_recount) K_X3_recount 2000 90 [some (.inr (some 45)), some (.inr (some 1)), some (.inl x2)] [] g = (if (g 1 0) ≤ x2 then (if inB (g 1 0) 5 = true then (if (inB (fiv (g 1 0).toNatClampNeg) 626) = true then some (.inl (none, (us g 47 (halP (g 47) (tn (fiv (g 1 0).toNatClampNeg)))))) else none) else none) else (if inB (g 1 0) 5 = true then (if (inB x2 4 && inB (fiv (g 1 0).toNatClampNeg) 626 && pw5 (tn x2) (tn (fiv (g 1 0).toNatClampNeg))) = true then some (.inr (90, [some (.inr (some 45)), some (.inr (some 1)), some (.inl (x2 + nI 1))], [], (us g 47 (sumP (g 47) (tn x2) (tn (fiv (g 1 0).toNatClampNeg)) (tn (fiv (g 1 0).toNatClampNeg)))))) else none) else none)) := by rfl
set_option maxRecDepth 100000 in
theorem blk_X3_recount_18 (E : Ex) (g : Sg) (x2 x3 : Int32) : seg (T_X3_recount E ev_X3_recount) K_X3_recount 2000 18 [some (.inr (some 45)), some (.inr (some 1)), some (.inl x2), some (.inl x3)] [] g = (if (nI 16) ≤ x3 then some (.inr (10, [some (.inr (some 45)), some (.inr (some 1)), some (.inl (x2 + nI 1))], [], g)) else (if x2 = x3 then some (.inr (18, [some (.inr (some 45)), some (.inr (some 1)), some (.inl x2), some (.inl (x3 + nI 1))], [], g)) else (if (b2i (inB x2 16 && rwC g (tn x2))) = 0 then some (.inr (18, [some (.inr (some 45)), some (.inr (some 1)), some (.inl x2), some (.inl (x3 + nI 1))], [], g)) else (if (b2i (inB x3 16 && rwC g (tn x3))) = 0 then some (.inr (18, [some (.inr (some 45)), some (.inr (some 1)), some (.inl x2), some (.inl (x3 + nI 1))], [], g)) else (if (inB x2 16 && inB x3 16 && inB (g 1 0) 5) = true then (if inB (nI (btw (tn (g 1 0)) (nmC g) (tn x2) (tn x3))) 625 = true then (if inB (nI (btw (tn (g 1 0)) (nmC g) (tn x2) (tn x3))) 625 = true then some (.inr (18, [some (.inr (some 45)), some (.inr (some 1)), some (.inl x2), some (.inl (x3 + nI 1))], [], (us g 46 (upd (g 46) (nI (btw (tn (g 1 0)) (nmC g) (tn x2) (tn x3))).toNatClampNeg ((g 46 (nI (btw (tn (g 1 0)) (nmC g) (tn x2) (tn x3))).toNatClampNeg) + (nI 1)))))) else none) else none) else none))))) := by rfl
def f_X5_isIn : Mf := (fun as g => match as with
  | [.inl a0, .inl a1, .inl a2] => true
  | _ => false, fun as g => match as with
  | [.inl a0, .inl a1, .inl a2] => (some (.inl (b2i (isI a0 a1 a2))), g)
  | _ => (none, g))
def ev_X5_isIn : Nat → Mf := fun j => (fun _ _ => false, fun _ g => (none, g))
def K_X5_isIn : List (Nat × Nat) := []
set_option maxRecDepth 100000 in
theorem blk_X5_isIn_0 (E : Ex) (g : Sg) (a0 a1 a2 : Int32) : seg (T_X5_isIn E ev_X5_isIn) K_X5_isIn 2000 0 [some (.inl a0), some (.inl a1), some (.inl a2)] [] g = (if a0 < a1 then some (.inl (some (.inl (nI 0)), g)) else (if a2 < a0 then some (.inl (some (.inl (nI 0)), g)) else some (.inl (some (.inl (nI 1)), g)))) := by rfl
def f_X5_columns : Mf := (fun as g => match as with
  | [.inr (some 51)] => true
  | _ => false, fun as g => match as with
  | [.inr (some 51)] => (some (.inl (g 52 128)), g)
  | _ => (none, g))
def ev_X5_columns : Nat → Mf := fun j => (fun _ _ => false, fun _ g => (none, g))
def K_X5_columns : List (Nat × Nat) := []
set_option maxRecDepth 100000 in
theorem blk_X5_columns_0 (E : Ex) (g : Sg) : seg (T_X5_columns E ev_X5_columns) K_X5_columns 2000 0 [some (.inr (some 51))] [] g = some (.inl (some (.inl (g 52 128)), g)) := by rfl
def f_X5_get : Mf := (fun as g => match as with
  | [.inr (some 51), .inl a1, .inl a2] => (inB (nI 8 * a1 + a2) 133)
  | _ => false, fun as g => match as with
  | [.inr (some 51), .inl a1, .inl a2] => (some (.inl (g 52 (nI 8 * a1 + a2).toNatClampNeg)), g)
  | _ => (none, g))
def ev_X5_get : Nat → Mf := fun j => (fun _ _ => false, fun _ g => (none, g))
def K_X5_get : List (Nat × Nat) := []
set_option maxRecDepth 100000 in
theorem blk_X5_get_0 (E : Ex) (g : Sg) (a1 a2 : Int32) : seg (T_X5_get E ev_X5_get) K_X5_get 2000 0 [some (.inr (some 51)), some (.inl a1), some (.inl a2)] [] g = (if inB (((nI 8) * a1) + a2) 133 = true then some (.inl (some (.inl (g 52 (((nI 8) * a1) + a2).toNatClampNeg)), g)) else none) := by rfl
def f_X5_set : Mf := (fun as g => match as with
  | [.inr (some 51), .inl a1, .inl a2, .inl a3] => (inB (nI 8 * a1 + a2) 133)
  | _ => false, fun as g => match as with
  | [.inr (some 51), .inl a1, .inl a2, .inl a3] => (none, (us g 52 (upd (g 52) (nI 8 * a1 + a2).toNatClampNeg a3)))
  | _ => (none, g))
def ev_X5_set : Nat → Mf := fun j => (fun _ _ => false, fun _ g => (none, g))
def K_X5_set : List (Nat × Nat) := []
set_option maxRecDepth 100000 in
theorem blk_X5_set_0 (E : Ex) (g : Sg) (a1 a2 a3 : Int32) : seg (T_X5_set E ev_X5_set) K_X5_set 2000 0 [some (.inr (some 51)), some (.inl a1), some (.inl a2), some (.inl a3)] [] g = (if inB (((nI 8) * a1) + a2) 133 = true then some (.inl (none, (us g 52 (upd (g 52) (((nI 8) * a1) + a2).toNatClampNeg a3)))) else none) := by rfl
def f_X5_isRow : Mf := (fun as g => match as with
  | [.inr (some 51), .inl a1] => true
  | _ => false, fun as g => match as with
  | [.inr (some 51), .inl a1] => (some (.inl (b2i (inB a1 16 && rwM g (tn a1)))), g)
  | _ => (none, g))
def ev_X5_isRow : Nat → Mf := fun j => (match Nat.beq j 66 with | true => f_X5_get | false => (match Nat.beq j 64 with | true => f_X5_isIn | false => (fun _ _ => false, fun _ g => (none, g))))
def K_X5_isRow : List (Nat × Nat) := []
set_option maxRecDepth 100000 in
theorem blk_X5_isRow_0 (E : Ex) (g : Sg) (a1 : Int32) : seg (T_X5_isRow E ev_X5_isRow) K_X5_isRow 2000 0 [some (.inr (some 51)), some (.inl a1)] [] g = (if (b2i (isI a1 (nI 0) (nI 15))) = 0 then some (.inl (some (.inl (nI 0)), g)) else (if (inB (nI 8 * a1 + (nI 0)) 133) = true then (if (g 52 (nI 8 * a1 + (nI 0)).toNatClampNeg) = (nI 1) then some (.inl (some (.inl (nI 1)), g)) else some (.inl (some (.inl (nI 0)), g))) else none)) := by rfl
def f_X5_isColumn : Mf := (fun as g => match as with
  | [.inr (some 51), .inl a1] => true
  | _ => false, fun as g => match as with
  | [.inr (some 51), .inl a1] => (some (.inl (b2i (isI a1 0 (g 52 128 - 1)))), g)
  | _ => (none, g))
def ev_X5_isColumn : Nat → Mf := fun j => (match Nat.beq j 64 with | true => f_X5_isIn | false => (match Nat.beq j 65 with | true => f_X5_columns | false => (fun _ _ => false, fun _ g => (none, g))))
def K_X5_isColumn : List (Nat × Nat) := []
set_option maxRecDepth 100000 in
theorem blk_X5_isColumn_0 (E : Ex) (g : Sg) (a1 : Int32) : seg (T_X5_isColumn E ev_X5_isColumn) K_X5_isColumn 2000 0 [some (.inr (some 51)), some (.inl a1)] [] g = (if isB (b2i (isI a1 (nI 0) ((g 52 128) - (nI 1)))) = true then some (.inl (some (.inl (b2i (isI a1 (nI 0) ((g 52 128) - (nI 1))))), g)) else none) := by rfl
def f_X5_isNumber : Mf := (fun as g => match as with
  | [.inl a0, .inl a1] => true
  | _ => false, fun as g => match as with
  | [.inl a0, .inl a1] => (some (.inl (b2i (fitB a0 a1))), g)
  | _ => (none, g))
def ev_X5_isNumber : Nat → Mf := fun j => (match Nat.beq j 64 with | true => f_X5_isIn | false => (fun _ _ => false, fun _ g => (none, g)))
def K_X5_isNumber : List (Nat × Nat) := []
set_option maxRecDepth 100000 in
theorem blk_X5_isNumber_0 (E : Ex) (g : Sg) (a0 a1 : Int32) : seg (T_X5_isNumber E ev_X5_isNumber) K_X5_isNumber 2000 0 [some (.inl a0), some (.inl a1)] [] g = (if (b2i (isI a1 (-99) (nI 99))) = 0 then (if a0 = (nI 4) then (if a1 = (nI 100) then some (.inl (some (.inl (nI 1)), g)) else some (.inl (some (.inl (nI 0)), g))) else some (.inl (some (.inl (nI 0)), g))) else some (.inl (some (.inl (nI 1)), g))) := by rfl
def f_X5_step : Mf := (fun as g => match as with
  | [.inr (some 51), .inl a1, .inl a2, .inl a3] => (inB a1 16 && inB a2 16 && inB a3 4)
  | _ => false, fun as g => match as with
  | [.inr (some 51), .inl a1, .inl a2, .inl a3] => (some (.inl (nI (wd (nmM g (tn a1) (tn a3)) (nmM g (tn a2) (tn a3))))), g)
  | _ => (none, g))
def ev_X5_step : Nat → Mf := fun j => (match Nat.beq j 66 with | true => f_X5_get | false => (fun _ _ => false, fun _ g => (none, g)))
def K_X5_step : List (Nat × Nat) := []
set_option maxRecDepth 100000 in
theorem blk_X5_step_0 (E : Ex) (g : Sg) (a1 a2 a3 : Int32) : seg (T_X5_step E ev_X5_step) K_X5_step 2000 0 [some (.inr (some 51)), some (.inl a1), some (.inl a2), some (.inl a3)] [] g = (if (inB (nI 8 * a1 + ((nI 4) + a3)) 133) = true then (if (inB (nI 8 * a2 + ((nI 4) + a3)) 133) = true then (if (g 52 (nI 8 * a1 + ((nI 4) + a3)).toNatClampNeg) = (nI 1000) then some (.inl (some (.inl (nI 2)), g)) else (if (g 52 (nI 8 * a2 + ((nI 4) + a3)).toNatClampNeg) = (nI 1000) then some (.inl (some (.inl (nI 2)), g)) else (if (g 52 (nI 8 * a1 + ((nI 4) + a3)).toNatClampNeg) = (g 52 (nI 8 * a2 + ((nI 4) + a3)).toNatClampNeg) then some (.inl (some (.inl (nI 1)), g)) else (if (g 52 (nI 8 * a2 + ((nI 4) + a3)).toNatClampNeg) ≤ (g 52 (nI 8 * a1 + ((nI 4) + a3)).toNatClampNeg) then some (.inl (some (.inl (nI 4)), g)) else some (.inl (some (.inl (nI 3)), g)))))) else none) else none) := by rfl
def f_X5_place : Mf := (fun as g => match as with
  | [.inl a0] => true
  | _ => false, fun as g => match as with
  | [.inl a0] => (some (.inl (plI a0)), g)
  | _ => (none, g))
def ev_X5_place : Nat → Mf := fun j => (fun _ _ => false, fun _ g => (none, g))
def K_X5_place : List (Nat × Nat) := []
set_option maxRecDepth 100000 in
theorem blk_X5_place_0 (E : Ex) (g : Sg) (a0 : Int32) : seg (T_X5_place E ev_X5_place) K_X5_place 2000 0 [some (.inl a0)] [] g = (if a0 = 0 then some (.inl (some (.inl (nI 1)), g)) else (if a0 = (nI 1) then some (.inl (some (.inl (nI 5)), g)) else (if a0 = (nI 2) then some (.inl (some (.inl (nI 25)), g)) else some (.inl (some (.inl (nI 125)), g))))) := by rfl
def f_X5_digit : Mf := (fun as g => match as with
  | [.inl a0, .inl a1] => (inB a0 625 && inB a1 4)
  | _ => false, fun as g => match as with
  | [.inl a0, .inl a1] => (some (.inl (nI (D (tn a0) (tn a1)))), g)
  | _ => (none, g))
def ev_X5_digit : Nat → Mf := fun j => (match Nat.beq j 82 with | true => f_X5_place | false => (fun _ _ => false, fun _ g => (none, g)))
def K_X5_digit : List (Nat × Nat) := []
set_option maxRecDepth 100000 in
theorem blk_X5_digit_0 (E : Ex) (g : Sg) (a0 a1 : Int32) : seg (T_X5_digit E ev_X5_digit) K_X5_digit 2000 0 [some (.inl a0), some (.inl a1)] [] g = (if (plI a1) = 0 then none else some (.inl (some (.inl ((a0 / (plI a1)) - (a0 / (plI a1)) / (nI 5) * (nI 5))), g))) := by rfl
def f_X5_between0 : Mf := (fun as g => match as with
  | [.inr (some 51), .inl a1, .inl a2] => (inB a1 16 && inB a2 16 && inB (g 52 128) 5)
  | _ => false, fun as g => match as with
  | [.inr (some 51), .inl a1, .inl a2] => (some (.inl (nI (btw (tn (g 52 128)) (nmM g) (tn a1) (tn a2)))), g)
  | _ => (none, g))
def ev_X5_between0 : Nat → Mf := fun j => (match Nat.beq j 81 with | true => f_X5_step | false => (match Nat.beq j 82 with | true => f_X5_place | false => (match Nat.beq j 65 with | true => f_X5_columns | false => (fun _ _ => false, fun _ g => (none, g)))))
def K_X5_between0 : List (Nat × Nat) := [(5, 5)]
set_option maxRecDepth 100000 in
theorem blk_X5_between0_0 (E : Ex) (g : Sg) (a1 a2 : Int32) : seg (T_X5_between0 E ev_X5_between0) K_X5_between0 2000 0 [some (.inr (some 51)), some (.inl a1), some (.inl a2)] [] g = some (.inr (5, [some (.inr (some 51)), some (.inl a1), some (.inl a2), some (.inl (nI 0)), some (.inl (nI 0))], [], g)) := by rfl
set_option maxRecDepth 100000 in
theorem blk_X5_between0_5 (E : Ex) (g : Sg) (x1 x2 x3 x4 : Int32) : seg (T_X5_between0 E ev_X5_between0) K_X5_between0 2000 5 [some (.inr (some 51)), some (.inl x1), some (.inl x2), some (.inl x3), some (.inl x4)] [] g = (if (g 52 128) ≤ x4 then some (.inl (some (.inl x3), g)) else (if (inB x1 16 && inB x2 16 && inB x4 4) = true then some (.inr (5, [some (.inr (some 51)), some (.inl x1), some (.inl x2), some (.inl (x3 + ((plI x4) * (nI (wd (nmM g (tn x1) (tn x4)) (nmM g (tn x2) (tn x4))))))), some (.inl (x4 + nI 1))], [], g)) else none)) := by rfl
def f_X5_counts : Mf := (fun as g => match as with
  | [.inr (some 51)] => (inB (g 52 128) 5)
  | _ => false, fun as g => match as with
  | [.inr (some 51)] => (none, (us g 54 (seenP (rwM g) (btw (tn (g 52 128)) (nmM g)) (g 54) 16 0)))
  | _ => (none, g))
def ev_X5_counts : Nat → Mf := fun j => (match Nat.beq j 84 with | true => f_X5_between0 | false => (match Nat.beq j 68 with | true => f_X5_isRow | false => (fun _ _ => false, fun _ g => (none, g))))
def K_X5_counts : List (Nat × Nat) := [(2, 2), (24, 2), (32, 3)]
set_option maxRecDepth 100000 in
theorem blk_X5_counts_0 (E : Ex) (g : Sg) : seg (T_X5_counts E ev_X5_counts) K_X5_counts 2000 0 [some (.inr (some 51))] [] g = some (.inr (2, [some (.inr (some 51)), some (.inl (nI 0))], [], g)) := by rfl
set_option maxRecDepth 100000 in
theorem blk_X5_counts_2 (E : Ex) (g : Sg) (x1 : Int32) : seg (T_X5_counts E ev_X5_counts) K_X5_counts 2000 2 [some (.inr (some 51)), some (.inl x1)] [] g = (if (nI 625) ≤ x1 then some (.inr (24, [some (.inr (some 51)), some (.inl (nI 0))], [], g)) else (if inB x1 625 = true then some (.inr (2, [some (.inr (some 51)), some (.inl (x1 + nI 1))], [], (us g 54 (upd (g 54) x1.toNatClampNeg (nI 0))))) else none)) := by rfl
set_option maxRecDepth 100000 in
theorem blk_X5_counts_24 (E : Ex) (g : Sg) (x1 : Int32) : seg (T_X5_counts E ev_X5_counts) K_X5_counts 2000 24 [some (.inr (some 51)), some (.inl x1)] [] g = (if (nI 16) ≤ x1 then some (.inl (none, g)) else some (.inr (32, [some (.inr (some 51)), some (.inl x1), some (.inl (nI 0))], [], g))) := by rfl
set_option maxRecDepth 100000 in
theorem blk_X5_counts_32 (E : Ex) (g : Sg) (x1 x2 : Int32) : seg (T_X5_counts E ev_X5_counts) K_X5_counts 2000 32 [some (.inr (some 51)), some (.inl x1), some (.inl x2)] [] g = (if (nI 16) ≤ x2 then some (.inr (24, [some (.inr (some 51)), some (.inl (x1 + nI 1))], [], g)) else (if x1 = x2 then some (.inr (32, [some (.inr (some 51)), some (.inl x1), some (.inl (x2 + nI 1))], [], g)) else (if (b2i (inB x1 16 && rwM g (tn x1))) = 0 then some (.inr (32, [some (.inr (some 51)), some (.inl x1), some (.inl (x2 + nI 1))], [], g)) else (if (b2i (inB x2 16 && rwM g (tn x2))) = 0 then some (.inr (32, [some (.inr (some 51)), some (.inl x1), some (.inl (x2 + nI 1))], [], g)) else (if (inB x1 16 && inB x2 16 && inB (g 52 128) 5) = true then (if inB (nI (btw (tn (g 52 128)) (nmM g) (tn x1) (tn x2))) 625 = true then (if inB (nI (btw (tn (g 52 128)) (nmM g) (tn x1) (tn x2))) 625 = true then some (.inr (32, [some (.inr (some 51)), some (.inl x1), some (.inl (x2 + nI 1))], [], (us g 54 (upd (g 54) (nI (btw (tn (g 52 128)) (nmM g) (tn x1) (tn x2))).toNatClampNeg ((g 54 (nI (btw (tn (g 52 128)) (nmM g) (tn x1) (tn x2))).toNatClampNeg) + (nI 1)))))) else none) else none) else none))))) := by rfl
def f_X5_most : Mf := (fun as g => match as with
  | [.inr (some 51)] => (inB (g 52 128) 5)
  | _ => false, fun as g => match as with
  | [.inr (some 51)] => (some (.inl (nI (5 ^ tn (g 52 128)))), g)
  | _ => (none, g))
def ev_X5_most : Nat → Mf := fun j => (match Nat.beq j 82 with | true => f_X5_place | false => (match Nat.beq j 65 with | true => f_X5_columns | false => (fun _ _ => false, fun _ g => (none, g))))
def K_X5_most : List (Nat × Nat) := []
set_option maxRecDepth 100000 in
theorem blk_X5_most_0 (E : Ex) (g : Sg) : seg (T_X5_most E ev_X5_most) K_X5_most 2000 0 [some (.inr (some 51))] [] g = (if (g 52 128) = (nI 4) then some (.inl (some (.inl (nI 625)), g)) else some (.inl (some (.inl (plI (g 52 128))), g))) := by rfl
def f_X5_isLaw : Mf := (fun as g => match as with
  | [.inr (some 51), .inl a1] => (inB (g 52 128) 5)
  | _ => false, fun as g => match as with
  | [.inr (some 51), .inl a1] => (some (.inl (b2i (lawB (tn (g 52 128)) a1))), g)
  | _ => (none, g))
def ev_X5_isLaw : Nat → Mf := fun j => (match Nat.beq j 64 with | true => f_X5_isIn | false => (match Nat.beq j 87 with | true => f_X5_most | false => (fun _ _ => false, fun _ g => (none, g))))
def K_X5_isLaw : List (Nat × Nat) := []
set_option maxRecDepth 100000 in
theorem blk_X5_isLaw_0 (E : Ex) (g : Sg) (a1 : Int32) : seg (T_X5_isLaw E ev_X5_isLaw) K_X5_isLaw 2000 0 [some (.inr (some 51)), some (.inl a1)] [] g = (if (inB (g 52 128) 5) = true then (if isB (b2i (isI a1 (nI 1) ((nI (5 ^ tn (g 52 128))) - (nI 1)))) = true then some (.inl (some (.inl (b2i (isI a1 (nI 1) ((nI (5 ^ tn (g 52 128))) - (nI 1))))), g)) else none) else none) := by rfl
def f_X5_turned : Mf := (fun as g => match as with
  | [.inr (some 51), .inl a1] => (inB a1 625)
  | _ => false, fun as g => match as with
  | [.inr (some 51), .inl a1] => (some (.inl (nI (tun (tn a1)))), g)
  | _ => (none, g))
def ev_X5_turned : Nat → Mf := fun j => (match Nat.beq j 83 with | true => f_X5_digit | false => (match Nat.beq j 82 with | true => f_X5_place | false => (fun _ _ => false, fun _ g => (none, g))))
def K_X5_turned : List (Nat × Nat) := [(4, 4)]
set_option maxRecDepth 100000 in
theorem blk_X5_turned_0 (E : Ex) (g : Sg) (a1 : Int32) : seg (T_X5_turned E ev_X5_turned) K_X5_turned 2000 0 [some (.inr (some 51)), some (.inl a1)] [] g = some (.inr (4, [some (.inr (some 51)), some (.inl a1), some (.inl (nI 0)), some (.inl (nI 0))], [], g)) := by rfl
set_option maxRecDepth 100000 in
theorem blk_X5_turned_4 (E : Ex) (g : Sg) (x1 x2 x3 : Int32) : seg (T_X5_turned E ev_X5_turned) K_X5_turned 2000 4 [some (.inr (some 51)), some (.inl x1), some (.inl x2), some (.inl x3)] [] g = (if (nI 4) ≤ x3 then some (.inl (some (.inl x2), g)) else (if (inB x1 625 && inB x3 4) = true then (if (nI (D (tn x1) (tn x3))) = (nI 3) then some (.inr (4, [some (.inr (some 51)), some (.inl x1), some (.inl (x2 + ((plI x3) * (nI 4)))), some (.inl (x3 + nI 1))], [], g)) else (if (inB x1 625 && inB x3 4) = true then (if (nI (D (tn x1) (tn x3))) = (nI 4) then some (.inr (4, [some (.inr (some 51)), some (.inl x1), some (.inl (x2 + ((plI x3) * (nI 3)))), some (.inl (x3 + nI 1))], [], g)) else (if (inB x1 625 && inB x3 4) = true then some (.inr (4, [some (.inr (some 51)), some (.inl x1), some (.inl (x2 + ((plI x3) * (nI (D (tn x1) (tn x3)))))), some (.inl (x3 + nI 1))], [], g)) else none)) else none)) else none)) := by rfl
def f_X5_least0 : Mf := (fun as g => match as with
  | [.inr (some 51), .inl a1] => (inB a1 625)
  | _ => false, fun as g => match as with
  | [.inr (some 51), .inl a1] => (some (.inl (nI (min (tn a1) (tun (tn a1))))), g)
  | _ => (none, g))
def ev_X5_least0 : Nat → Mf := fun j => (match Nat.beq j 91 with | true => f_X5_turned | false => (fun _ _ => false, fun _ g => (none, g)))
def K_X5_least0 : List (Nat × Nat) := []
set_option maxRecDepth 100000 in
theorem blk_X5_least0_0 (E : Ex) (g : Sg) (a1 : Int32) : seg (T_X5_least0 E ev_X5_least0) K_X5_least0 2000 0 [some (.inr (some 51)), some (.inl a1)] [] g = (if (inB a1 625) = true then (if (nI (tun (tn a1))) ≤ a1 then (if (inB a1 625) = true then some (.inl (some (.inl (nI (tun (tn a1)))), g)) else none) else some (.inl (some (.inl a1), g))) else none) := by rfl
def f_X5_isSo : Mf := (fun as g => match as with
  | [.inr (some 51), .inl a1, .inl a2, .inl a3] => (inB a1 625 && inB a2 16 && inB a3 16 && inB (g 52 128) 5)
  | _ => false, fun as g => match as with
  | [.inr (some 51), .inl a1, .inl a2, .inl a3] => (some (.inl (b2i (soB (tn (g 52 128)) (nmM g) (tn a1) (tn a2) (tn a3)))), g)
  | _ => (none, g))
def ev_X5_isSo : Nat → Mf := fun j => (match Nat.beq j 81 with | true => f_X5_step | false => (match Nat.beq j 83 with | true => f_X5_digit | false => (match Nat.beq j 65 with | true => f_X5_columns | false => (fun _ _ => false, fun _ g => (none, g)))))
def K_X5_isSo : List (Nat × Nat) := [(3, 5)]
set_option maxRecDepth 100000 in
theorem blk_X5_isSo_0 (E : Ex) (g : Sg) (a1 a2 a3 : Int32) : seg (T_X5_isSo E ev_X5_isSo) K_X5_isSo 2000 0 [some (.inr (some 51)), some (.inl a1), some (.inl a2), some (.inl a3)] [] g = some (.inr (3, [some (.inr (some 51)), some (.inl a1), some (.inl a2), some (.inl a3), some (.inl (nI 0))], [], g)) := by rfl
set_option maxRecDepth 100000 in
theorem blk_X5_isSo_3 (E : Ex) (g : Sg) (x1 x2 x3 x4 : Int32) : seg (T_X5_isSo E ev_X5_isSo) K_X5_isSo 2000 3 [some (.inr (some 51)), some (.inl x1), some (.inl x2), some (.inl x3), some (.inl x4)] [] g = (if (g 52 128) ≤ x4 then some (.inl (some (.inl (nI 1)), g)) else (if (inB x1 625 && inB x4 4) = true then (if (nI (D (tn x1) (tn x4))) = 0 then (if (nI (D (tn x1) (tn x4))) = (nI 2) then some (.inr (3, [some (.inr (some 51)), some (.inl x1), some (.inl x2), some (.inl x3), some (.inl (x4 + nI 1))], [], g)) else (if (nI (D (tn x1) (tn x4))) = (nI 0) then some (.inr (3, [some (.inr (some 51)), some (.inl x1), some (.inl x2), some (.inl x3), some (.inl (x4 + nI 1))], [], g)) else some (.inl (some (.inl (nI 0)), g)))) else (if (inB x2 16 && inB x3 16 && inB x4 4) = true then (if (nI (D (tn x1) (tn x4))) = (nI 2) then (if (nI (wd (nmM g (tn x2) (tn x4)) (nmM g (tn x3) (tn x4)))) = (nI 1) then some (.inl (some (.inl (nI 0)), g)) else some (.inr (3, [some (.inr (some 51)), some (.inl x1), some (.inl x2), some (.inl x3), some (.inl (x4 + nI 1))], [], g))) else (if (nI (D (tn x1) (tn x4))) = (nI (wd (nmM g (tn x2) (tn x4)) (nmM g (tn x3) (tn x4)))) then some (.inr (3, [some (.inr (some 51)), some (.inl x1), some (.inl x2), some (.inl x3), some (.inl (x4 + nI 1))], [], g)) else some (.inl (some (.inl (nI 0)), g)))) else none)) else none)) := by rfl
def f_X5_breaks : Mf := (fun as g => match as with
  | [.inr (some 51), .inl a1, .inl a2, .inl a3] => (inB a1 625 && inB a2 16 && inB a3 16 && inB (g 52 128) 5)
  | _ => false, fun as g => match as with
  | [.inr (some 51), .inl a1, .inl a2, .inl a3] => (some (.inl (b2i (brB (tn (g 52 128)) (rwM g) (nmM g) (tn a1) (tn a2) (tn a3)))), g)
  | _ => (none, g))
def ev_X5_breaks : Nat → Mf := fun j => (match Nat.beq j 94 with | true => f_X5_isSo | false => (match Nat.beq j 68 with | true => f_X5_isRow | false => (fun _ _ => false, fun _ g => (none, g))))
def K_X5_breaks : List (Nat × Nat) := []
set_option maxRecDepth 100000 in
theorem blk_X5_breaks_0 (E : Ex) (g : Sg) (a1 a2 a3 : Int32) : seg (T_X5_breaks E ev_X5_breaks) K_X5_breaks 2000 0 [some (.inr (some 51)), some (.inl a1), some (.inl a2), some (.inl a3)] [] g = (if (b2i (inB a2 16 && rwM g (tn a2))) = 0 then some (.inl (some (.inl (nI 0)), g)) else (if (b2i (inB a3 16 && rwM g (tn a3))) = 0 then some (.inl (some (.inl (nI 0)), g)) else (if (inB a1 625 && inB a2 16 && inB a3 16 && inB (g 52 128) 5) = true then (if (b2i (soB (tn (g 52 128)) (nmM g) (tn a1) (tn a2) (tn a3))) = 0 then (if (inB a1 625 && inB a3 16 && inB a2 16 && inB (g 52 128) 5) = true then (if (b2i (soB (tn (g 52 128)) (nmM g) (tn a1) (tn a3) (tn a2))) = 0 then some (.inl (some (.inl (nI 0)), g)) else some (.inl (some (.inl (nI 1)), g))) else none) else some (.inl (some (.inl (nI 1)), g))) else none))) := by rfl
def f_X5_broken0 : Mf := (fun as g => match as with
  | [.inr (some 51), .inl a1] => (inB a1 625 && inB (g 52 128) 5)
  | _ => false, fun as g => match as with
  | [.inr (some 51), .inl a1] => (some (.inl (nI (brN (tn (g 52 128)) (rwM g) (nmM g) (tn a1)))), g)
  | _ => (none, g))
def ev_X5_broken0 : Nat → Mf := fun j => (match Nat.beq j 95 with | true => f_X5_breaks | false => (fun _ _ => false, fun _ g => (none, g)))
def K_X5_broken0 : List (Nat × Nat) := [(4, 4), (15, 5)]
set_option maxRecDepth 100000 in
theorem blk_X5_broken0_0 (E : Ex) (g : Sg) (a1 : Int32) : seg (T_X5_broken0 E ev_X5_broken0) K_X5_broken0 2000 0 [some (.inr (some 51)), some (.inl a1)] [] g = some (.inr (4, [some (.inr (some 51)), some (.inl a1), some (.inl (nI 0)), some (.inl (nI 0))], [], g)) := by rfl
set_option maxRecDepth 100000 in
theorem blk_X5_broken0_4 (E : Ex) (g : Sg) (x1 x2 x3 : Int32) : seg (T_X5_broken0 E ev_X5_broken0) K_X5_broken0 2000 4 [some (.inr (some 51)), some (.inl x1), some (.inl x2), some (.inl x3)] [] g = (if (nI 16) ≤ x3 then some (.inl (some (.inl x2), g)) else some (.inr (15, [some (.inr (some 51)), some (.inl x1), some (.inl x2), some (.inl x3), some (.inl (x3 + (nI 1)))], [], g))) := by rfl
set_option maxRecDepth 100000 in
theorem blk_X5_broken0_15 (E : Ex) (g : Sg) (x1 x2 x3 x4 : Int32) : seg (T_X5_broken0 E ev_X5_broken0) K_X5_broken0 2000 15 [some (.inr (some 51)), some (.inl x1), some (.inl x2), some (.inl x3), some (.inl x4)] [] g = (if (nI 16) ≤ x4 then some (.inr (4, [some (.inr (some 51)), some (.inl x1), some (.inl x2), some (.inl (x3 + nI 1))], [], g)) else (if (inB x1 625 && inB x3 16 && inB x4 16 && inB (g 52 128) 5) = true then (if (b2i (brB (tn (g 52 128)) (rwM g) (nmM g) (tn x1) (tn x3) (tn x4))) = 0 then some (.inr (15, [some (.inr (some 51)), some (.inl x1), some (.inl (x2 + (nI 0))), some (.inl x3), some (.inl (x4 + nI 1))], [], g)) else some (.inr (15, [some (.inr (some 51)), some (.inl x1), some (.inl (x2 + (nI 1))), some (.inl x3), some (.inl (x4 + nI 1))], [], g))) else none)) := by rfl
def f_X5_saysAll : Mf := (fun as g => match as with
  | [.inl a0, .inl a1] => (inB a0 625 && inB a1 625)
  | _ => false, fun as g => match as with
  | [.inl a0, .inl a1] => (some (.inl (b2i (saB (tn a0) (tn a1)))), g)
  | _ => (none, g))
def ev_X5_saysAll : Nat → Mf := fun j => (match Nat.beq j 83 with | true => f_X5_digit | false => (fun _ _ => false, fun _ g => (none, g)))
def K_X5_saysAll : List (Nat × Nat) := [(2, 3)]
set_option maxRecDepth 100000 in
theorem blk_X5_saysAll_0 (E : Ex) (g : Sg) (a0 a1 : Int32) : seg (T_X5_saysAll E ev_X5_saysAll) K_X5_saysAll 2000 0 [some (.inl a0), some (.inl a1)] [] g = some (.inr (2, [some (.inl a0), some (.inl a1), some (.inl (nI 0))], [], g)) := by rfl
set_option maxRecDepth 100000 in
theorem blk_X5_saysAll_2 (E : Ex) (g : Sg) (x0 x1 x2 : Int32) : seg (T_X5_saysAll E ev_X5_saysAll) K_X5_saysAll 2000 2 [some (.inl x0), some (.inl x1), some (.inl x2)] [] g = (if (nI 4) ≤ x2 then some (.inl (some (.inl (nI 1)), g)) else (if (inB x0 625 && inB x2 4) = true then (if (inB x1 625 && inB x2 4) = true then (if (nI (D (tn x1) (tn x2))) = 0 then some (.inr (2, [some (.inl x0), some (.inl x1), some (.inl (x2 + nI 1))], [], g)) else (if (nI (D (tn x0) (tn x2))) = (nI (D (tn x1) (tn x2))) then some (.inr (2, [some (.inl x0), some (.inl x1), some (.inl (x2 + nI 1))], [], g)) else (if (nI (D (tn x1) (tn x2))) = (nI 2) then (if (nI (D (tn x0) (tn x2))) ≤ (nI 2) then some (.inl (some (.inl (nI 0)), g)) else some (.inr (2, [some (.inl x0), some (.inl x1), some (.inl (x2 + nI 1))], [], g))) else some (.inl (some (.inl (nI 0)), g))))) else none) else none)) := by rfl
def f_X5_isSaid : Mf := (fun as g => match as with
  | [.inr (some 51), .inl a1, .inl a2] => (inB a1 625 && inB a2 625)
  | _ => false, fun as g => match as with
  | [.inr (some 51), .inl a1, .inl a2] => (some (.inl (b2i (isd (tn a1) (tn a2)))), g)
  | _ => (none, g))
def ev_X5_isSaid : Nat → Mf := fun j => (match Nat.beq j 91 with | true => f_X5_turned | false => (match Nat.beq j 99 with | true => f_X5_saysAll | false => (fun _ _ => false, fun _ g => (none, g))))
def K_X5_isSaid : List (Nat × Nat) := []
set_option maxRecDepth 100000 in
theorem blk_X5_isSaid_0 (E : Ex) (g : Sg) (a1 a2 : Int32) : seg (T_X5_isSaid E ev_X5_isSaid) K_X5_isSaid 2000 0 [some (.inr (some 51)), some (.inl a1), some (.inl a2)] [] g = (if (inB a1 625 && inB a2 625) = true then (if (b2i (saB (tn a1) (tn a2))) = 0 then (if (inB a2 625) = true then (if (inB a1 625 && inB (nI (tun (tn a2))) 625) = true then (if (b2i (saB (tn a1) (tn (nI (tun (tn a2)))))) = 0 then some (.inl (some (.inl (nI 0)), g)) else some (.inl (some (.inl (nI 1)), g))) else none) else none) else some (.inl (some (.inl (nI 1)), g))) else none) := by rfl
def f_X5_size : Mf := (fun as g => match as with
  | [.inl a0] => (inB a0 625)
  | _ => false, fun as g => match as with
  | [.inl a0] => (some (.inl (nI (cols (tn a0)))), g)
  | _ => (none, g))
def ev_X5_size : Nat → Mf := fun j => (match Nat.beq j 83 with | true => f_X5_digit | false => (fun _ _ => false, fun _ g => (none, g)))
def K_X5_size : List (Nat × Nat) := [(4, 3)]
set_option maxRecDepth 100000 in
theorem blk_X5_size_0 (E : Ex) (g : Sg) (a0 : Int32) : seg (T_X5_size E ev_X5_size) K_X5_size 2000 0 [some (.inl a0)] [] g = some (.inr (4, [some (.inl a0), some (.inl (nI 0)), some (.inl (nI 0))], [], g)) := by rfl
set_option maxRecDepth 100000 in
theorem blk_X5_size_4 (E : Ex) (g : Sg) (x0 x1 x2 : Int32) : seg (T_X5_size E ev_X5_size) K_X5_size 2000 4 [some (.inl x0), some (.inl x1), some (.inl x2)] [] g = (if (nI 4) ≤ x2 then some (.inl (some (.inl x1), g)) else (if (inB x0 625 && inB x2 4) = true then (if (nI (D (tn x0) (tn x2))) ≤ 0 then some (.inr (4, [some (.inl x0), some (.inl (x1 + (nI 0))), some (.inl (x2 + nI 1))], [], g)) else some (.inr (4, [some (.inl x0), some (.inl (x1 + (nI 1))), some (.inl (x2 + nI 1))], [], g))) else none)) := by rfl
def f_X2_copyFrom : Mf := (fun as g => match as with
  | [.inr (some a0), .inr (some a1)] => (cpOK a0 a1)
  | _ => false, fun as g => match as with
  | [.inr (some a0), .inr (some a1)] => (none, (cpS g a1 a0))
  | _ => (none, g))
def ev_X2_copyFrom : Nat → Mf := fun j => (fun _ _ => false, fun _ g => (none, g))
def K_X2_copyFrom : List (Nat × Nat) := []
set_option maxRecDepth 100000 in
theorem blk1_9_X2_copyFrom_0 (E : Ex) (g : Sg) : seg (T_X2_copyFrom E ev_X2_copyFrom) K_X2_copyFrom 2000 0 [some (.inr (some 1)), some (.inr (some 9))] [] g = some (.inl (none, (us (us (us (us (us (us g 1 (upd (g 1) 0 (g 9 0))) 2 (va_cpy (g 10) (g 2) 0 0 16)) 3 (va_cpy (g 11) (g 3) 0 0 16)) 4 (va_cpy (g 12) (g 4) 0 0 16)) 5 (va_cpy (g 13) (g 5) 0 0 64)) 6 (va_cpy (g 14) (g 6) 0 0 4)))) := by rfl
set_option maxRecDepth 100000 in
theorem blk1_15_X2_copyFrom_0 (E : Ex) (g : Sg) : seg (T_X2_copyFrom E ev_X2_copyFrom) K_X2_copyFrom 2000 0 [some (.inr (some 1)), some (.inr (some 15))] [] g = some (.inl (none, (us (us (us (us (us (us g 1 (upd (g 1) 0 (g 15 0))) 2 (va_cpy (g 16) (g 2) 0 0 16)) 3 (va_cpy (g 17) (g 3) 0 0 16)) 4 (va_cpy (g 18) (g 4) 0 0 16)) 5 (va_cpy (g 19) (g 5) 0 0 64)) 6 (va_cpy (g 20) (g 6) 0 0 4)))) := by rfl
set_option maxRecDepth 100000 in
theorem blk1_21_X2_copyFrom_0 (E : Ex) (g : Sg) : seg (T_X2_copyFrom E ev_X2_copyFrom) K_X2_copyFrom 2000 0 [some (.inr (some 1)), some (.inr (some 21))] [] g = some (.inl (none, (us (us (us (us (us (us g 1 (upd (g 1) 0 (g 21 0))) 2 (va_cpy (g 22) (g 2) 0 0 16)) 3 (va_cpy (g 23) (g 3) 0 0 16)) 4 (va_cpy (g 24) (g 4) 0 0 16)) 5 (va_cpy (g 25) (g 5) 0 0 64)) 6 (va_cpy (g 26) (g 6) 0 0 4)))) := by rfl
set_option maxRecDepth 100000 in
theorem blk1_27_X2_copyFrom_0 (E : Ex) (g : Sg) : seg (T_X2_copyFrom E ev_X2_copyFrom) K_X2_copyFrom 2000 0 [some (.inr (some 1)), some (.inr (some 27))] [] g = some (.inl (none, (us (us (us (us (us (us g 1 (upd (g 1) 0 (g 27 0))) 2 (va_cpy (g 28) (g 2) 0 0 16)) 3 (va_cpy (g 29) (g 3) 0 0 16)) 4 (va_cpy (g 30) (g 4) 0 0 16)) 5 (va_cpy (g 31) (g 5) 0 0 64)) 6 (va_cpy (g 32) (g 6) 0 0 4)))) := by rfl
set_option maxRecDepth 100000 in
theorem blk1_33_X2_copyFrom_0 (E : Ex) (g : Sg) : seg (T_X2_copyFrom E ev_X2_copyFrom) K_X2_copyFrom 2000 0 [some (.inr (some 1)), some (.inr (some 33))] [] g = some (.inl (none, (us (us (us (us (us (us g 1 (upd (g 1) 0 (g 33 0))) 2 (va_cpy (g 34) (g 2) 0 0 16)) 3 (va_cpy (g 35) (g 3) 0 0 16)) 4 (va_cpy (g 36) (g 4) 0 0 16)) 5 (va_cpy (g 37) (g 5) 0 0 64)) 6 (va_cpy (g 38) (g 6) 0 0 4)))) := by rfl
set_option maxRecDepth 100000 in
theorem blk1_39_X2_copyFrom_0 (E : Ex) (g : Sg) : seg (T_X2_copyFrom E ev_X2_copyFrom) K_X2_copyFrom 2000 0 [some (.inr (some 1)), some (.inr (some 39))] [] g = some (.inl (none, (us (us (us (us (us (us g 1 (upd (g 1) 0 (g 39 0))) 2 (va_cpy (g 40) (g 2) 0 0 16)) 3 (va_cpy (g 41) (g 3) 0 0 16)) 4 (va_cpy (g 42) (g 4) 0 0 16)) 5 (va_cpy (g 43) (g 5) 0 0 64)) 6 (va_cpy (g 44) (g 6) 0 0 4)))) := by rfl
set_option maxRecDepth 100000 in
theorem blk9_1_X2_copyFrom_0 (E : Ex) (g : Sg) : seg (T_X2_copyFrom E ev_X2_copyFrom) K_X2_copyFrom 2000 0 [some (.inr (some 9)), some (.inr (some 1))] [] g = some (.inl (none, (us (us (us (us (us (us g 9 (upd (g 9) 0 (g 1 0))) 10 (va_cpy (g 2) (g 10) 0 0 16)) 11 (va_cpy (g 3) (g 11) 0 0 16)) 12 (va_cpy (g 4) (g 12) 0 0 16)) 13 (va_cpy (g 5) (g 13) 0 0 64)) 14 (va_cpy (g 6) (g 14) 0 0 4)))) := by rfl
set_option maxRecDepth 100000 in
theorem blk15_1_X2_copyFrom_0 (E : Ex) (g : Sg) : seg (T_X2_copyFrom E ev_X2_copyFrom) K_X2_copyFrom 2000 0 [some (.inr (some 15)), some (.inr (some 1))] [] g = some (.inl (none, (us (us (us (us (us (us g 15 (upd (g 15) 0 (g 1 0))) 16 (va_cpy (g 2) (g 16) 0 0 16)) 17 (va_cpy (g 3) (g 17) 0 0 16)) 18 (va_cpy (g 4) (g 18) 0 0 16)) 19 (va_cpy (g 5) (g 19) 0 0 64)) 20 (va_cpy (g 6) (g 20) 0 0 4)))) := by rfl
set_option maxRecDepth 100000 in
theorem blk21_1_X2_copyFrom_0 (E : Ex) (g : Sg) : seg (T_X2_copyFrom E ev_X2_copyFrom) K_X2_copyFrom 2000 0 [some (.inr (some 21)), some (.inr (some 1))] [] g = some (.inl (none, (us (us (us (us (us (us g 21 (upd (g 21) 0 (g 1 0))) 22 (va_cpy (g 2) (g 22) 0 0 16)) 23 (va_cpy (g 3) (g 23) 0 0 16)) 24 (va_cpy (g 4) (g 24) 0 0 16)) 25 (va_cpy (g 5) (g 25) 0 0 64)) 26 (va_cpy (g 6) (g 26) 0 0 4)))) := by rfl
set_option maxRecDepth 100000 in
theorem blk27_1_X2_copyFrom_0 (E : Ex) (g : Sg) : seg (T_X2_copyFrom E ev_X2_copyFrom) K_X2_copyFrom 2000 0 [some (.inr (some 27)), some (.inr (some 1))] [] g = some (.inl (none, (us (us (us (us (us (us g 27 (upd (g 27) 0 (g 1 0))) 28 (va_cpy (g 2) (g 28) 0 0 16)) 29 (va_cpy (g 3) (g 29) 0 0 16)) 30 (va_cpy (g 4) (g 30) 0 0 16)) 31 (va_cpy (g 5) (g 31) 0 0 64)) 32 (va_cpy (g 6) (g 32) 0 0 4)))) := by rfl
set_option maxRecDepth 100000 in
theorem blk33_1_X2_copyFrom_0 (E : Ex) (g : Sg) : seg (T_X2_copyFrom E ev_X2_copyFrom) K_X2_copyFrom 2000 0 [some (.inr (some 33)), some (.inr (some 1))] [] g = some (.inl (none, (us (us (us (us (us (us g 33 (upd (g 33) 0 (g 1 0))) 34 (va_cpy (g 2) (g 34) 0 0 16)) 35 (va_cpy (g 3) (g 35) 0 0 16)) 36 (va_cpy (g 4) (g 36) 0 0 16)) 37 (va_cpy (g 5) (g 37) 0 0 64)) 38 (va_cpy (g 6) (g 38) 0 0 4)))) := by rfl
set_option maxRecDepth 100000 in
theorem blk39_1_X2_copyFrom_0 (E : Ex) (g : Sg) : seg (T_X2_copyFrom E ev_X2_copyFrom) K_X2_copyFrom 2000 0 [some (.inr (some 39)), some (.inr (some 1))] [] g = some (.inl (none, (us (us (us (us (us (us g 39 (upd (g 39) 0 (g 1 0))) 40 (va_cpy (g 2) (g 40) 0 0 16)) 41 (va_cpy (g 3) (g 41) 0 0 16)) 42 (va_cpy (g 4) (g 42) 0 0 16)) 43 (va_cpy (g 5) (g 43) 0 0 64)) 44 (va_cpy (g 6) (g 44) 0 0 4)))) := by rfl
def f_X2_empty : Mf := (fun as g => match as with
  | [.inr (some 1), .inl a1] => true
  | _ => false, fun as g => match as with
  | [.inr (some 1), .inl a1] => (none, (us (us (us g 1 (upd (g 1) 0 a1)) 2 (filF (g 2) 16 (-1))) 6 (filF (g 6) 4 0)))
  | _ => (none, g))
def ev_X2_empty : Nat → Mf := fun j => (match Nat.beq j 119 with | true => f_J7_fill_53178 | false => (fun _ _ => false, fun _ g => (none, g)))
def K_X2_empty : List (Nat × Nat) := []
set_option maxRecDepth 100000 in
theorem blk_X2_empty_0 (E : Ex) (g : Sg) (a1 : Int32) : seg (T_X2_empty E ev_X2_empty) K_X2_empty 2000 0 [some (.inr (some 1)), some (.inl a1)] [] g = (if (filOK 2) = true then (if (filOK 6) = true then some (.inl (none, (us (us (us g 1 (upd (g 1) 0 a1)) 2 (filF ((us g 1 (upd (g 1) 0 a1)) 2) (lnq 2) (-1))) 6 (filF ((us (us g 1 (upd (g 1) 0 a1)) 2 (filF ((us g 1 (upd (g 1) 0 a1)) 2) (lnq 2) (-1))) 6) (lnq 6) (nI 0))))) else none) else none) := by rfl
