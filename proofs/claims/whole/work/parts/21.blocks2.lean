/-! WHAT THE STRETCHES DO -/
def f_X0_keep : Mf := (fun as g => match as with
  | [.inr (some 7), .inr (some 1)] => (gH g)
  | _ => false, fun as g => match as with
  | [.inr (some 7), .inr (some 1)] => (none, (keepC g))
  | _ => (none, g))
def ev_X0_keep : Nat → Mf := fun j => (match Nat.beq j 10 with | true => f_X2_copyFrom | false => (fun _ _ => false, fun _ g => (none, g)))
def K_X0_keep : List (Nat × Nat) := []
set_option maxRecDepth 100000 in
theorem blk0_X0_keep_0 (E : Ex) (g : Sg) : seg (T_X0_keep E ev_X0_keep) K_X0_keep 2000 0 [some (.inr (some 7)), some (.inr (some 1))] [] (us g 7 (upd (g 7) 1 (nI 0))) = (if (cpOK 9 1) = true then some (.inl (none, (us (us (cpS (us g 7 (upd (g 7) 1 (nI 0))) 1 9) 7 (upd ((cpS (us g 7 (upd (g 7) 1 (nI 0))) 1 9) 7) 1 ((((cpS (us g 7 (upd (g 7) 1 (nI 0))) 1 9) 7 1) + (nI 1)) - (((cpS (us g 7 (upd (g 7) 1 (nI 0))) 1 9) 7 1) + (nI 1)) / (nI 6) * (nI 6)))) 7 (upd (upd ((cpS (us g 7 (upd (g 7) 1 (nI 0))) 1 9) 7) 1 ((((cpS (us g 7 (upd (g 7) 1 (nI 0))) 1 9) 7 1) + (nI 1)) - (((cpS (us g 7 (upd (g 7) 1 (nI 0))) 1 9) 7 1) + (nI 1)) / (nI 6) * (nI 6))) 2 (minI (((upd ((cpS (us g 7 (upd (g 7) 1 (nI 0))) 1 9) 7) 1 ((((cpS (us g 7 (upd (g 7) 1 (nI 0))) 1 9) 7 1) + (nI 1)) - (((cpS (us g 7 (upd (g 7) 1 (nI 0))) 1 9) 7 1) + (nI 1)) / (nI 6) * (nI 6))) 2) + (nI 1)) (nI 6)))))) else none) := by rfl
set_option maxRecDepth 100000 in
theorem blk1_X0_keep_0 (E : Ex) (g : Sg) : seg (T_X0_keep E ev_X0_keep) K_X0_keep 2000 0 [some (.inr (some 7)), some (.inr (some 1))] [] (us g 7 (upd (g 7) 1 (nI 1))) = (if (cpOK 15 1) = true then some (.inl (none, (us (us (cpS (us g 7 (upd (g 7) 1 (nI 1))) 1 15) 7 (upd ((cpS (us g 7 (upd (g 7) 1 (nI 1))) 1 15) 7) 1 ((((cpS (us g 7 (upd (g 7) 1 (nI 1))) 1 15) 7 1) + (nI 1)) - (((cpS (us g 7 (upd (g 7) 1 (nI 1))) 1 15) 7 1) + (nI 1)) / (nI 6) * (nI 6)))) 7 (upd (upd ((cpS (us g 7 (upd (g 7) 1 (nI 1))) 1 15) 7) 1 ((((cpS (us g 7 (upd (g 7) 1 (nI 1))) 1 15) 7 1) + (nI 1)) - (((cpS (us g 7 (upd (g 7) 1 (nI 1))) 1 15) 7 1) + (nI 1)) / (nI 6) * (nI 6))) 2 (minI (((upd ((cpS (us g 7 (upd (g 7) 1 (nI 1))) 1 15) 7) 1 ((((cpS (us g 7 (upd (g 7) 1 (nI 1))) 1 15) 7 1) + (nI 1)) - (((cpS (us g 7 (upd (g 7) 1 (nI 1))) 1 15) 7 1) + (nI 1)) / (nI 6) * (nI 6))) 2) + (nI 1)) (nI 6)))))) else none) := by rfl
set_option maxRecDepth 100000 in
theorem blk2_X0_keep_0 (E : Ex) (g : Sg) : seg (T_X0_keep E ev_X0_keep) K_X0_keep 2000 0 [some (.inr (some 7)), some (.inr (some 1))] [] (us g 7 (upd (g 7) 1 (nI 2))) = (if (cpOK 21 1) = true then some (.inl (none, (us (us (cpS (us g 7 (upd (g 7) 1 (nI 2))) 1 21) 7 (upd ((cpS (us g 7 (upd (g 7) 1 (nI 2))) 1 21) 7) 1 ((((cpS (us g 7 (upd (g 7) 1 (nI 2))) 1 21) 7 1) + (nI 1)) - (((cpS (us g 7 (upd (g 7) 1 (nI 2))) 1 21) 7 1) + (nI 1)) / (nI 6) * (nI 6)))) 7 (upd (upd ((cpS (us g 7 (upd (g 7) 1 (nI 2))) 1 21) 7) 1 ((((cpS (us g 7 (upd (g 7) 1 (nI 2))) 1 21) 7 1) + (nI 1)) - (((cpS (us g 7 (upd (g 7) 1 (nI 2))) 1 21) 7 1) + (nI 1)) / (nI 6) * (nI 6))) 2 (minI (((upd ((cpS (us g 7 (upd (g 7) 1 (nI 2))) 1 21) 7) 1 ((((cpS (us g 7 (upd (g 7) 1 (nI 2))) 1 21) 7 1) + (nI 1)) - (((cpS (us g 7 (upd (g 7) 1 (nI 2))) 1 21) 7 1) + (nI 1)) / (nI 6) * (nI 6))) 2) + (nI 1)) (nI 6)))))) else none) := by rfl
set_option maxRecDepth 100000 in
theorem blk3_X0_keep_0 (E : Ex) (g : Sg) : seg (T_X0_keep E ev_X0_keep) K_X0_keep 2000 0 [some (.inr (some 7)), some (.inr (some 1))] [] (us g 7 (upd (g 7) 1 (nI 3))) = (if (cpOK 27 1) = true then some (.inl (none, (us (us (cpS (us g 7 (upd (g 7) 1 (nI 3))) 1 27) 7 (upd ((cpS (us g 7 (upd (g 7) 1 (nI 3))) 1 27) 7) 1 ((((cpS (us g 7 (upd (g 7) 1 (nI 3))) 1 27) 7 1) + (nI 1)) - (((cpS (us g 7 (upd (g 7) 1 (nI 3))) 1 27) 7 1) + (nI 1)) / (nI 6) * (nI 6)))) 7 (upd (upd ((cpS (us g 7 (upd (g 7) 1 (nI 3))) 1 27) 7) 1 ((((cpS (us g 7 (upd (g 7) 1 (nI 3))) 1 27) 7 1) + (nI 1)) - (((cpS (us g 7 (upd (g 7) 1 (nI 3))) 1 27) 7 1) + (nI 1)) / (nI 6) * (nI 6))) 2 (minI (((upd ((cpS (us g 7 (upd (g 7) 1 (nI 3))) 1 27) 7) 1 ((((cpS (us g 7 (upd (g 7) 1 (nI 3))) 1 27) 7 1) + (nI 1)) - (((cpS (us g 7 (upd (g 7) 1 (nI 3))) 1 27) 7 1) + (nI 1)) / (nI 6) * (nI 6))) 2) + (nI 1)) (nI 6)))))) else none) := by rfl
set_option maxRecDepth 100000 in
theorem blk4_X0_keep_0 (E : Ex) (g : Sg) : seg (T_X0_keep E ev_X0_keep) K_X0_keep 2000 0 [some (.inr (some 7)), some (.inr (some 1))] [] (us g 7 (upd (g 7) 1 (nI 4))) = (if (cpOK 33 1) = true then some (.inl (none, (us (us (cpS (us g 7 (upd (g 7) 1 (nI 4))) 1 33) 7 (upd ((cpS (us g 7 (upd (g 7) 1 (nI 4))) 1 33) 7) 1 ((((cpS (us g 7 (upd (g 7) 1 (nI 4))) 1 33) 7 1) + (nI 1)) - (((cpS (us g 7 (upd (g 7) 1 (nI 4))) 1 33) 7 1) + (nI 1)) / (nI 6) * (nI 6)))) 7 (upd (upd ((cpS (us g 7 (upd (g 7) 1 (nI 4))) 1 33) 7) 1 ((((cpS (us g 7 (upd (g 7) 1 (nI 4))) 1 33) 7 1) + (nI 1)) - (((cpS (us g 7 (upd (g 7) 1 (nI 4))) 1 33) 7 1) + (nI 1)) / (nI 6) * (nI 6))) 2 (minI (((upd ((cpS (us g 7 (upd (g 7) 1 (nI 4))) 1 33) 7) 1 ((((cpS (us g 7 (upd (g 7) 1 (nI 4))) 1 33) 7 1) + (nI 1)) - (((cpS (us g 7 (upd (g 7) 1 (nI 4))) 1 33) 7 1) + (nI 1)) / (nI 6) * (nI 6))) 2) + (nI 1)) (nI 6)))))) else none) := by rfl
set_option maxRecDepth 100000 in
theorem blk5_X0_keep_0 (E : Ex) (g : Sg) : seg (T_X0_keep E ev_X0_keep) K_X0_keep 2000 0 [some (.inr (some 7)), some (.inr (some 1))] [] (us g 7 (upd (g 7) 1 (nI 5))) = (if (cpOK 39 1) = true then some (.inl (none, (us (us (cpS (us g 7 (upd (g 7) 1 (nI 5))) 1 39) 7 (upd ((cpS (us g 7 (upd (g 7) 1 (nI 5))) 1 39) 7) 1 ((((cpS (us g 7 (upd (g 7) 1 (nI 5))) 1 39) 7 1) + (nI 1)) - (((cpS (us g 7 (upd (g 7) 1 (nI 5))) 1 39) 7 1) + (nI 1)) / (nI 6) * (nI 6)))) 7 (upd (upd ((cpS (us g 7 (upd (g 7) 1 (nI 5))) 1 39) 7) 1 ((((cpS (us g 7 (upd (g 7) 1 (nI 5))) 1 39) 7 1) + (nI 1)) - (((cpS (us g 7 (upd (g 7) 1 (nI 5))) 1 39) 7 1) + (nI 1)) / (nI 6) * (nI 6))) 2 (minI (((upd ((cpS (us g 7 (upd (g 7) 1 (nI 5))) 1 39) 7) 1 ((((cpS (us g 7 (upd (g 7) 1 (nI 5))) 1 39) 7 1) + (nI 1)) - (((cpS (us g 7 (upd (g 7) 1 (nI 5))) 1 39) 7 1) + (nI 1)) / (nI 6) * (nI 6))) 2) + (nI 1)) (nI 6)))))) else none) := by rfl
def f_X0_giveBack : Mf := (fun as g => match as with
  | [.inr (some 7), .inr (some 1)] => (gH g)
  | _ => false, fun as g => match as with
  | [.inr (some 7), .inr (some 1)] => (some (.inl (b2i (!decide (g 7 2 = 0)))), (if g 7 2 = 0 then g else backC g))
  | _ => (none, g))
def ev_X0_giveBack : Nat → Mf := fun j => (match Nat.beq j 10 with | true => f_X2_copyFrom | false => (fun _ _ => false, fun _ g => (none, g)))
def K_X0_giveBack : List (Nat × Nat) := [(35, 2)]
set_option maxRecDepth 100000 in
theorem blk_X0_giveBack_0 (E : Ex) (g : Sg) : seg (T_X0_giveBack E ev_X0_giveBack) K_X0_giveBack 2000 0 [some (.inr (some 7)), some (.inr (some 1))] [] g = (if (g 7 2) = 0 then some (.inl (some (.inl (nI 0)), g)) else some (.inr (35, [some (.inr (some 7)), some (.inr (some 1))], [], (us (us g 7 (upd (g 7) 1 ((((g 7 1) + (nI 6)) - (nI 1)) - (((g 7 1) + (nI 6)) - (nI 1)) / (nI 6) * (nI 6)))) 7 (upd (upd (g 7) 1 ((((g 7 1) + (nI 6)) - (nI 1)) - (((g 7 1) + (nI 6)) - (nI 1)) / (nI 6) * (nI 6))) 2 (((upd (g 7) 1 ((((g 7 1) + (nI 6)) - (nI 1)) - (((g 7 1) + (nI 6)) - (nI 1)) / (nI 6) * (nI 6))) 2) - (nI 1))))))) := by rfl
set_option maxRecDepth 100000 in
theorem blk0_X0_giveBack_35 (E : Ex) (g : Sg) : seg (T_X0_giveBack E ev_X0_giveBack) K_X0_giveBack 2000 35 [some (.inr (some 7)), some (.inr (some 1))] [] (us g 7 (upd (g 7) 1 (nI 0))) = (if (cpOK 1 9) = true then some (.inl (some (.inl (nI 1)), (cpS (us g 7 (upd (g 7) 1 (nI 0))) 9 1))) else none) := by rfl
set_option maxRecDepth 100000 in
theorem blk1_X0_giveBack_35 (E : Ex) (g : Sg) : seg (T_X0_giveBack E ev_X0_giveBack) K_X0_giveBack 2000 35 [some (.inr (some 7)), some (.inr (some 1))] [] (us g 7 (upd (g 7) 1 (nI 1))) = (if (cpOK 1 15) = true then some (.inl (some (.inl (nI 1)), (cpS (us g 7 (upd (g 7) 1 (nI 1))) 15 1))) else none) := by rfl
set_option maxRecDepth 100000 in
theorem blk2_X0_giveBack_35 (E : Ex) (g : Sg) : seg (T_X0_giveBack E ev_X0_giveBack) K_X0_giveBack 2000 35 [some (.inr (some 7)), some (.inr (some 1))] [] (us g 7 (upd (g 7) 1 (nI 2))) = (if (cpOK 1 21) = true then some (.inl (some (.inl (nI 1)), (cpS (us g 7 (upd (g 7) 1 (nI 2))) 21 1))) else none) := by rfl
set_option maxRecDepth 100000 in
theorem blk3_X0_giveBack_35 (E : Ex) (g : Sg) : seg (T_X0_giveBack E ev_X0_giveBack) K_X0_giveBack 2000 35 [some (.inr (some 7)), some (.inr (some 1))] [] (us g 7 (upd (g 7) 1 (nI 3))) = (if (cpOK 1 27) = true then some (.inl (some (.inl (nI 1)), (cpS (us g 7 (upd (g 7) 1 (nI 3))) 27 1))) else none) := by rfl
set_option maxRecDepth 100000 in
theorem blk4_X0_giveBack_35 (E : Ex) (g : Sg) : seg (T_X0_giveBack E ev_X0_giveBack) K_X0_giveBack 2000 35 [some (.inr (some 7)), some (.inr (some 1))] [] (us g 7 (upd (g 7) 1 (nI 4))) = (if (cpOK 1 33) = true then some (.inl (some (.inl (nI 1)), (cpS (us g 7 (upd (g 7) 1 (nI 4))) 33 1))) else none) := by rfl
set_option maxRecDepth 100000 in
theorem blk5_X0_giveBack_35 (E : Ex) (g : Sg) : seg (T_X0_giveBack E ev_X0_giveBack) K_X0_giveBack 2000 35 [some (.inr (some 7)), some (.inr (some 1))] [] (us g 7 (upd (g 7) 1 (nI 5))) = (if (cpOK 1 39) = true then some (.inl (some (.inl (nI 1)), (cpS (us g 7 (upd (g 7) 1 (nI 5))) 39 1))) else none) := by rfl
def f_X4_remember : Mf := (fun as g => match as with
  | [.inr (some 0)] => (gH g)
  | _ => false, fun as g => match as with
  | [.inr (some 0)] => (none, (remC g))
  | _ => (none, g))
def ev_X4_remember : Nat → Mf := fun j => (match Nat.beq j 0 with | true => f_X0_keep | false => (fun _ _ => false, fun _ g => (none, g)))
def K_X4_remember : List (Nat × Nat) := []
set_option maxRecDepth 100000 in
theorem blk_X4_remember_0 (E : Ex) (g : Sg) : seg (T_X4_remember E ev_X4_remember) K_X4_remember 2000 0 [some (.inr (some 0))] [] g = (if (gH g) = true then some (.inl (none, (us (us (keepC g) 0 (upd ((keepC g) 0) 4 (nI 0))) 0 (upd (upd ((keepC g) 0) 4 (nI 0)) 5 (nI 0))))) else none) := by rfl
def f_X4_count : Mf := (fun as g => match as with
  | [.inr (some 0)] => (gC g)
  | _ => false, fun as g => match as with
  | [.inr (some 0)] => (none, (cntC g))
  | _ => (none, g))
def ev_X4_count : Nat → Mf := fun j => (match Nat.beq j 21 with | true => f_X3_recount | false => (fun _ _ => false, fun _ g => (none, g)))
def K_X4_count : List (Nat × Nat) := []
set_option maxRecDepth 100000 in
theorem blk_X4_count_0 (E : Ex) (g : Sg) : seg (T_X4_count E ev_X4_count) K_X4_count 2000 0 [some (.inr (some 0))] [] g = (if (g 0 4) = 0 then (if (inB (g 1 0) 5) = true then some (.inl (none, (us (recG g) 0 (upd ((recG g) 0) 4 (nI 1))))) else none) else some (.inl (none, g))) := by rfl
def f_X4_undo : Mf := (fun as g => match as with
  | [.inr (some 0)] => (gH g)
  | _ => false, fun as g => match as with
  | [.inr (some 0)] => (some (.inl (b2i (!decide (g 7 2 = 0)))), (if g 7 2 = 0 then g else undC g))
  | _ => (none, g))
def ev_X4_undo : Nat → Mf := fun j => (match Nat.beq j 1 with | true => f_X0_giveBack | false => (fun _ _ => false, fun _ g => (none, g)))
def K_X4_undo : List (Nat × Nat) := []
set_option maxRecDepth 100000 in
theorem blk_X4_undo_0 (E : Ex) (g : Sg) : seg (T_X4_undo E ev_X4_undo) K_X4_undo 2000 0 [some (.inr (some 0))] [] g = (if (gH g) = true then (if (b2i (!decide (g 7 2 = 0))) = 0 then some (.inl (some (.inl (nI 0)), (if g 7 2 = 0 then g else backC g))) else some (.inl (some (.inl (nI 1)), (us (us (if g 7 2 = 0 then g else backC g) 0 (upd ((if g 7 2 = 0 then g else backC g) 0) 4 (nI 0))) 0 (upd (upd ((if g 7 2 = 0 then g else backC g) 0) 4 (nI 0)) 5 (nI 0)))))) else none) := by rfl
def f_X4_table : Mf := (fun as g => match as with
  | [.inr (some 0), .inl a1] => (gH g)
  | _ => false, fun as g => match as with
  | [.inr (some 0), .inl a1] => (some (.inl (b2i (isI a1 1 4))), (if isI a1 1 4 = true then tabC g a1 else g))
  | _ => (none, g))
def ev_X4_table : Nat → Mf := fun j => (match Nat.beq j 9 with | true => f_X2_empty | false => (match Nat.beq j 53 with | true => f_X4_remember | false => (fun _ _ => false, fun _ g => (none, g))))
def K_X4_table : List (Nat × Nat) := []
set_option maxRecDepth 100000 in
theorem blk_X4_table_0 (E : Ex) (g : Sg) (a1 : Int32) : seg (T_X4_table E ev_X4_table) K_X4_table 2000 0 [some (.inr (some 0)), some (.inl a1)] [] g = (if a1 < (nI 1) then some (.inl (some (.inl (nI 0)), g)) else (if a1 ≤ (nI 4) then (if (gH g) = true then some (.inl (some (.inl (nI 1)), (us (us (us (remC g) 1 (upd ((remC g) 1) 0 a1)) 2 (filF ((remC g) 2) 16 (-1))) 6 (filF ((remC g) 6) 4 0)))) else none) else some (.inl (some (.inl (nI 0)), g)))) := by rfl
def f_X4_put : Mf := (fun as g => match as with
  | [.inr (some 0), .inl a1, .inl a2, .inl a3, .inl a4, .inl a5, .inl a6, .inl a7] => (gH g)
  | _ => false, fun as g => match as with
  | [.inr (some 0), .inl a1, .inl a2, .inl a3, .inl a4, .inl a5, .inl a6, .inl a7] => (some (.inl (b2i (putB a1 a2 a3 a4 a5 a6 a7))), (if putB a1 a2 a3 a4 a5 a6 a7 = true then putC g a1 a2 a3 a4 a5 a6 a7 else g))
  | _ => (none, g))
def ev_X4_put : Nat → Mf := fun j => (match Nat.beq j 14 with | true => f_X2_write | false => (match Nat.beq j 13 with | true => f_X2_seat | false => (match Nat.beq j 53 with | true => f_X4_remember | false => (match Nat.beq j 57 with | true => f_X4_fits | false => (match Nat.beq j 56 with | true => f_X4_isSlot | false => (fun _ _ => false, fun _ g => (none, g)))))))
def K_X4_put : List (Nat × Nat) := [(27, 8), (40, 8), (54, 8), (68, 8), (84, 8), (118, 8), (139, 8), (160, 8), (181, 0)]
set_option maxRecDepth 100000 in
theorem blk_X4_put_0 (E : Ex) (g : Sg) (a1 a2 a3 a4 a5 a6 a7 : Int32) : seg (T_X4_put E ev_X4_put) K_X4_put 2000 0 [some (.inr (some 0)), some (.inl a1), some (.inl a2), some (.inl a3), some (.inl a4), some (.inl a5), some (.inl a6), some (.inl a7)] [] g = (if (b2i (inB a1 16)) = 0 then some (.inl (some (.inl (nI 0)), g)) else (if a2 < 0 then some (.inl (some (.inl (nI 0)), g)) else (if (nI 4) < a2 then some (.inl (some (.inl (nI 0)), g)) else (if a3 < 0 then some (.inl (some (.inl (nI 0)), g)) else (if a3 ≤ (nI 4) then some (.inr (27, [some (.inr (some 0)), some (.inl a1), some (.inl a2), some (.inl a3), some (.inl a4), some (.inl a5), some (.inl a6), some (.inl a7)], [], g)) else some (.inl (some (.inl (nI 0)), g))))))) := by rfl
set_option maxRecDepth 100000 in
theorem blk_X4_put_27 (E : Ex) (g : Sg) (x1 x2 x3 x4 x5 x6 x7 : Int32) : seg (T_X4_put E ev_X4_put) K_X4_put 2000 27 [some (.inr (some 0)), some (.inl x1), some (.inl x2), some (.inl x3), some (.inl x4), some (.inl x5), some (.inl x6), some (.inl x7)] [] g = (if x3 ≤ 0 then some (.inr (40, [some (.inr (some 0)), some (.inl x1), some (.inl x2), some (.inl x3), some (.inl x4), some (.inl x5), some (.inl x6), some (.inl x7)], [], g)) else (if (b2i (fitB x2 x4)) = 0 then some (.inl (some (.inl (nI 0)), g)) else some (.inr (40, [some (.inr (some 0)), some (.inl x1), some (.inl x2), some (.inl x3), some (.inl x4), some (.inl x5), some (.inl x6), some (.inl x7)], [], g)))) := by rfl
set_option maxRecDepth 100000 in
theorem blk_X4_put_40 (E : Ex) (g : Sg) (x1 x2 x3 x4 x5 x6 x7 : Int32) : seg (T_X4_put E ev_X4_put) K_X4_put 2000 40 [some (.inr (some 0)), some (.inl x1), some (.inl x2), some (.inl x3), some (.inl x4), some (.inl x5), some (.inl x6), some (.inl x7)] [] g = (if x3 ≤ (nI 1) then some (.inr (54, [some (.inr (some 0)), some (.inl x1), some (.inl x2), some (.inl x3), some (.inl x4), some (.inl x5), some (.inl x6), some (.inl x7)], [], g)) else (if (b2i (fitB x2 x5)) = 0 then some (.inl (some (.inl (nI 0)), g)) else some (.inr (54, [some (.inr (some 0)), some (.inl x1), some (.inl x2), some (.inl x3), some (.inl x4), some (.inl x5), some (.inl x6), some (.inl x7)], [], g)))) := by rfl
set_option maxRecDepth 100000 in
theorem blk_X4_put_54 (E : Ex) (g : Sg) (x1 x2 x3 x4 x5 x6 x7 : Int32) : seg (T_X4_put E ev_X4_put) K_X4_put 2000 54 [some (.inr (some 0)), some (.inl x1), some (.inl x2), some (.inl x3), some (.inl x4), some (.inl x5), some (.inl x6), some (.inl x7)] [] g = (if x3 ≤ (nI 2) then some (.inr (68, [some (.inr (some 0)), some (.inl x1), some (.inl x2), some (.inl x3), some (.inl x4), some (.inl x5), some (.inl x6), some (.inl x7)], [], g)) else (if (b2i (fitB x2 x6)) = 0 then some (.inl (some (.inl (nI 0)), g)) else some (.inr (68, [some (.inr (some 0)), some (.inl x1), some (.inl x2), some (.inl x3), some (.inl x4), some (.inl x5), some (.inl x6), some (.inl x7)], [], g)))) := by rfl
set_option maxRecDepth 100000 in
theorem blk_X4_put_68 (E : Ex) (g : Sg) (x1 x2 x3 x4 x5 x6 x7 : Int32) : seg (T_X4_put E ev_X4_put) K_X4_put 2000 68 [some (.inr (some 0)), some (.inl x1), some (.inl x2), some (.inl x3), some (.inl x4), some (.inl x5), some (.inl x6), some (.inl x7)] [] g = (if x3 ≤ (nI 3) then some (.inr (84, [some (.inr (some 0)), some (.inl x1), some (.inl x2), some (.inl x3), some (.inl x4), some (.inl x5), some (.inl x6), some (.inl x7)], [], g)) else (if (b2i (fitB x2 x7)) = 0 then some (.inl (some (.inl (nI 0)), g)) else some (.inr (84, [some (.inr (some 0)), some (.inl x1), some (.inl x2), some (.inl x3), some (.inl x4), some (.inl x5), some (.inl x6), some (.inl x7)], [], g)))) := by rfl
set_option maxRecDepth 100000 in
theorem blk_X4_put_84 (E : Ex) (g : Sg) (x1 x2 x3 x4 x5 x6 x7 : Int32) : seg (T_X4_put E ev_X4_put) K_X4_put 2000 84 [some (.inr (some 0)), some (.inl x1), some (.inl x2), some (.inl x3), some (.inl x4), some (.inl x5), some (.inl x6), some (.inl x7)] [] g = (if (gH g) = true then (if (inB x1 16) = true then (if x3 ≤ 0 then (if (inB (x1 * nI 4 + (nI 0)) 64) = true then some (.inr (118, [some (.inr (some 0)), some (.inl x1), some (.inl x2), some (.inl x3), some (.inl x4), some (.inl x5), some (.inl x6), some (.inl x7)], [], (us (us (us (us (remC g) 2 (upd ((remC g) 2) (tn x1) x2)) 3 (upd ((remC g) 3) (tn x1) x3)) 4 (upd ((remC g) 4) (tn x1) 1)) 5 (upd ((us (us (us (remC g) 2 (upd ((remC g) 2) (tn x1) x2)) 3 (upd ((remC g) 3) (tn x1) x3)) 4 (upd ((remC g) 4) (tn x1) 1)) 5) (x1 * nI 4 + (nI 0)).toNatClampNeg (wr1 (nI 100)))))) else none) else (if (inB (x1 * nI 4 + (nI 0)) 64) = true then some (.inr (118, [some (.inr (some 0)), some (.inl x1), some (.inl x2), some (.inl x3), some (.inl x4), some (.inl x5), some (.inl x6), some (.inl x7)], [], (us (us (us (us (remC g) 2 (upd ((remC g) 2) (tn x1) x2)) 3 (upd ((remC g) 3) (tn x1) x3)) 4 (upd ((remC g) 4) (tn x1) 1)) 5 (upd ((us (us (us (remC g) 2 (upd ((remC g) 2) (tn x1) x2)) 3 (upd ((remC g) 3) (tn x1) x3)) 4 (upd ((remC g) 4) (tn x1) 1)) 5) (x1 * nI 4 + (nI 0)).toNatClampNeg (wr1 x4))))) else none)) else none) else none) := by rfl
set_option maxRecDepth 100000 in
theorem blk_X4_put_118 (E : Ex) (g : Sg) (x1 x2 x3 x4 x5 x6 x7 : Int32) : seg (T_X4_put E ev_X4_put) K_X4_put 2000 118 [some (.inr (some 0)), some (.inl x1), some (.inl x2), some (.inl x3), some (.inl x4), some (.inl x5), some (.inl x6), some (.inl x7)] [] g = (if x3 ≤ (nI 1) then (if (inB (x1 * nI 4 + (nI 1)) 64) = true then some (.inr (139, [some (.inr (some 0)), some (.inl x1), some (.inl x2), some (.inl x3), some (.inl x4), some (.inl x5), some (.inl x6), some (.inl x7)], [], (us g 5 (upd (g 5) (x1 * nI 4 + (nI 1)).toNatClampNeg (wr1 (nI 100)))))) else none) else (if (inB (x1 * nI 4 + (nI 1)) 64) = true then some (.inr (139, [some (.inr (some 0)), some (.inl x1), some (.inl x2), some (.inl x3), some (.inl x4), some (.inl x5), some (.inl x6), some (.inl x7)], [], (us g 5 (upd (g 5) (x1 * nI 4 + (nI 1)).toNatClampNeg (wr1 x5))))) else none)) := by rfl
set_option maxRecDepth 100000 in
theorem blk_X4_put_139 (E : Ex) (g : Sg) (x1 x2 x3 x4 x5 x6 x7 : Int32) : seg (T_X4_put E ev_X4_put) K_X4_put 2000 139 [some (.inr (some 0)), some (.inl x1), some (.inl x2), some (.inl x3), some (.inl x4), some (.inl x5), some (.inl x6), some (.inl x7)] [] g = (if x3 ≤ (nI 2) then (if (inB (x1 * nI 4 + (nI 2)) 64) = true then some (.inr (160, [some (.inr (some 0)), some (.inl x1), some (.inl x2), some (.inl x3), some (.inl x4), some (.inl x5), some (.inl x6), some (.inl x7)], [], (us g 5 (upd (g 5) (x1 * nI 4 + (nI 2)).toNatClampNeg (wr1 (nI 100)))))) else none) else (if (inB (x1 * nI 4 + (nI 2)) 64) = true then some (.inr (160, [some (.inr (some 0)), some (.inl x1), some (.inl x2), some (.inl x3), some (.inl x4), some (.inl x5), some (.inl x6), some (.inl x7)], [], (us g 5 (upd (g 5) (x1 * nI 4 + (nI 2)).toNatClampNeg (wr1 x6))))) else none)) := by rfl
set_option maxRecDepth 100000 in
theorem blk_X4_put_160 (E : Ex) (g : Sg) (x1 x2 x3 x4 x5 x6 x7 : Int32) : seg (T_X4_put E ev_X4_put) K_X4_put 2000 160 [some (.inr (some 0)), some (.inl x1), some (.inl x2), some (.inl x3), some (.inl x4), some (.inl x5), some (.inl x6), some (.inl x7)] [] g = (if x3 ≤ (nI 3) then (if (inB (x1 * nI 4 + (nI 3)) 64) = true then some (.inr (181, [], [], (us g 5 (upd (g 5) (x1 * nI 4 + (nI 3)).toNatClampNeg (wr1 (nI 100)))))) else none) else (if (inB (x1 * nI 4 + (nI 3)) 64) = true then some (.inr (181, [], [], (us g 5 (upd (g 5) (x1 * nI 4 + (nI 3)).toNatClampNeg (wr1 x7))))) else none)) := by rfl
set_option maxRecDepth 100000 in
theorem blk_X4_put_181 (E : Ex) (g : Sg) : seg (T_X4_put E ev_X4_put) K_X4_put 2000 181 [] [] g = some (.inl (some (.inl (nI 1)), g)) := by rfl
def f_X4_change : Mf := (fun as g => match as with
  | [.inr (some 0), .inl a1, .inl a2, .inl a3] => (gH g && gC g)
  | _ => false, fun as g => match as with
  | [.inr (some 0), .inl a1, .inl a2, .inl a3] => (some (.inl (b2i (chB g a1 a2 a3))), (if chB g a1 a2 a3 = true then chC g a1 a2 a3 else g))
  | _ => (none, g))
def ev_X4_change : Nat → Mf := fun j => (match Nat.beq j 14 with | true => f_X2_write | false => (match Nat.beq j 53 with | true => f_X4_remember | false => (match Nat.beq j 57 with | true => f_X4_fits | false => (match Nat.beq j 12 with | true => f_X2_hasColumn | false => (match Nat.beq j 11 with | true => f_X2_hasRow | false => (fun _ _ => false, fun _ g => (none, g)))))))
def K_X4_change : List (Nat × Nat) := []
set_option maxRecDepth 100000 in
theorem blk_X4_change_0 (E : Ex) (g : Sg) (a1 a2 a3 : Int32) : seg (T_X4_change E ev_X4_change) K_X4_change 2000 0 [some (.inr (some 0)), some (.inl a1), some (.inl a2), some (.inl a3)] [] g = (if (b2i (inB a1 16 && rwC g (tn a1))) = 0 then some (.inl (some (.inl (nI 0)), g)) else (if (b2i (decide (0 ≤ a2) && decide (a2 < g 1 0))) = 0 then some (.inl (some (.inl (nI 0)), g)) else (if inB a1 16 = true then (if (g 3 a1.toNatClampNeg) ≤ a2 then some (.inl (some (.inl (nI 0)), g)) else (if inB a1 16 = true then (if (b2i (fitB (g 2 a1.toNatClampNeg) a3)) = 0 then some (.inl (some (.inl (nI 0)), g)) else (if (gH g) = true then (if (inB (a1 * nI 4 + a2) 64) = true then some (.inl (some (.inl (nI 1)), (us (remC g) 5 (upd ((remC g) 5) (a1 * nI 4 + a2).toNatClampNeg (wr1 a3))))) else none) else none)) else none)) else none))) := by rfl
def f_X4_strike : Mf := (fun as g => match as with
  | [.inr (some 0), .inl a1] => (gH g)
  | _ => false, fun as g => match as with
  | [.inr (some 0), .inl a1] => (some (.inl (b2i (rowB g a1))), (if rowB g a1 = true then strC g a1 else g))
  | _ => (none, g))
def ev_X4_strike : Nat → Mf := fun j => (match Nat.beq j 53 with | true => f_X4_remember | false => (match Nat.beq j 11 with | true => f_X2_hasRow | false => (fun _ _ => false, fun _ g => (none, g))))
def K_X4_strike : List (Nat × Nat) := []
set_option maxRecDepth 100000 in
theorem blk_X4_strike_0 (E : Ex) (g : Sg) (a1 : Int32) : seg (T_X4_strike E ev_X4_strike) K_X4_strike 2000 0 [some (.inr (some 0)), some (.inl a1)] [] g = (if (b2i (inB a1 16 && rwC g (tn a1))) = 0 then some (.inl (some (.inl (nI 0)), g)) else (if (gH g) = true then (if inB a1 16 = true then some (.inl (some (.inl (nI 1)), (us (remC g) 2 (upd ((remC g) 2) a1.toNatClampNeg (-1))))) else none) else none)) := by rfl
def f_X4_price : Mf := (fun as g => match as with
  | [.inr (some 0), .inl a1, .inl a2] => (gH g)
  | _ => false, fun as g => match as with
  | [.inr (some 0), .inl a1, .inl a2] => (some (.inl (b2i (rowB g a1 && isI a2 0 99))), (if (rowB g a1 && isI a2 0 99) = true then priC g a1 a2 else g))
  | _ => (none, g))
def ev_X4_price : Nat → Mf := fun j => (match Nat.beq j 53 with | true => f_X4_remember | false => (match Nat.beq j 11 with | true => f_X2_hasRow | false => (fun _ _ => false, fun _ g => (none, g))))
def K_X4_price : List (Nat × Nat) := []
set_option maxRecDepth 100000 in
theorem blk_X4_price_0 (E : Ex) (g : Sg) (a1 a2 : Int32) : seg (T_X4_price E ev_X4_price) K_X4_price 2000 0 [some (.inr (some 0)), some (.inl a1), some (.inl a2)] [] g = (if (b2i (inB a1 16 && rwC g (tn a1))) = 0 then some (.inl (some (.inl (nI 0)), g)) else (if a2 < 0 then some (.inl (some (.inl (nI 0)), g)) else (if a2 ≤ (nI 99) then (if (gH g) = true then (if inB a1 16 = true then some (.inl (some (.inl (nI 1)), (us (remC g) 4 (upd ((remC g) 4) a1.toNatClampNeg a2)))) else none) else none) else some (.inl (some (.inl (nI 0)), g))))) := by rfl
def f_X4_swap : Mf := (fun as g => match as with
  | [.inr (some 0), .inl a1, .inl a2] => (gH g && gC g)
  | _ => false, fun as g => match as with
  | [.inr (some 0), .inl a1, .inl a2] => (some (.inl (b2i (swB g a1 a2))), (if swB g a1 a2 = true then swC g a1 a2 else g))
  | _ => (none, g))
def ev_X4_swap : Nat → Mf := fun j => (match Nat.beq j 17 with | true => f_X2_exchange | false => (match Nat.beq j 53 with | true => f_X4_remember | false => (match Nat.beq j 16 with | true => f_X2_shortest | false => (match Nat.beq j 12 with | true => f_X2_hasColumn | false => (fun _ _ => false, fun _ g => (none, g))))))
def K_X4_swap : List (Nat × Nat) := []
set_option maxRecDepth 100000 in
theorem blk_X4_swap_0 (E : Ex) (g : Sg) (a1 a2 : Int32) : seg (T_X4_swap E ev_X4_swap) K_X4_swap 2000 0 [some (.inr (some 0)), some (.inl a1), some (.inl a2)] [] g = (if (b2i (decide (0 ≤ a1) && decide (a1 < g 1 0))) = 0 then some (.inl (some (.inl (nI 0)), g)) else (if (b2i (decide (0 ≤ a2) && decide (a2 < g 1 0))) = 0 then some (.inl (some (.inl (nI 0)), g)) else (if (maxI a1 a2) < (shC g 16) then (if (gH g) = true then (if (inB a1 4 && inB a2 4) = true then some (.inl (some (.inl (nI 1)), (us (remC g) 5 (exN ((remC g) 5) (tn a1) (tn a2) 16)))) else none) else none) else some (.inl (some (.inl (nI 0)), g))))) := by rfl
def f_X4_at : Mf := (fun as g => match as with
  | [.inr (some 0), .inl a1, .inl a2] => (gC g)
  | _ => false, fun as g => match as with
  | [.inr (some 0), .inl a1, .inl a2] => (some (.inl (atV g a1 a2)), g)
  | _ => (none, g))
def ev_X4_at : Nat → Mf := fun j => (match Nat.beq j 15 with | true => f_X2_read | false => (match Nat.beq j 12 with | true => f_X2_hasColumn | false => (match Nat.beq j 11 with | true => f_X2_hasRow | false => (fun _ _ => false, fun _ g => (none, g)))))
def K_X4_at : List (Nat × Nat) := []
set_option maxRecDepth 100000 in
theorem blk_X4_at_0 (E : Ex) (g : Sg) (a1 a2 : Int32) : seg (T_X4_at E ev_X4_at) K_X4_at 2000 0 [some (.inr (some 0)), some (.inl a1), some (.inl a2)] [] g = (if (b2i (inB a1 16 && rwC g (tn a1))) = 0 then some (.inl (some (.inl (nI 1001)), g)) else (if (b2i (decide (0 ≤ a2) && decide (a2 < g 1 0))) = 0 then some (.inl (some (.inl (nI 1001)), g)) else (if (inB (a1 * nI 4 + a2) 64) = true then some (.inl (some (.inl (g 5 (a1 * nI 4 + a2).toNatClampNeg)), g)) else none))) := by rfl
def f_X4_row : Mf := (fun as g => match as with
  | [.inr (some 0), .inl a1, .inl a2] => true
  | _ => false, fun as g => match as with
  | [.inr (some 0), .inl a1, .inl a2] => (some (.inl (rowV g a1 a2)), g)
  | _ => (none, g))
def ev_X4_row : Nat → Mf := fun j => (match Nat.beq j 11 with | true => f_X2_hasRow | false => (match Nat.beq j 56 with | true => f_X4_isSlot | false => (fun _ _ => false, fun _ g => (none, g))))
def K_X4_row : List (Nat × Nat) := []
set_option maxRecDepth 100000 in
theorem blk_X4_row_0 (E : Ex) (g : Sg) (a1 a2 : Int32) : seg (T_X4_row E ev_X4_row) K_X4_row 2000 0 [some (.inr (some 0)), some (.inl a1), some (.inl a2)] [] g = (if (b2i (inB a1 16)) = 0 then some (.inl (some (.inl (-1)), g)) else (if a2 = 0 then (if (b2i (inB a1 16 && rwC g (tn a1))) = 0 then some (.inl (some (.inl (nI 0)), g)) else some (.inl (some (.inl (nI 1)), g))) else (if (b2i (inB a1 16 && rwC g (tn a1))) = 0 then some (.inl (some (.inl (-1)), g)) else (if a2 = nI 1 then (if inB a1 16 = true then some (.inl (some (.inl (g 2 a1.toNatClampNeg)), g)) else none) else (if a2 = nI 2 then (if inB a1 16 = true then some (.inl (some (.inl (g 3 a1.toNatClampNeg)), g)) else none) else (if a2 = nI 3 then (if inB a1 16 = true then some (.inl (some (.inl (g 4 a1.toNatClampNeg)), g)) else none) else some (.inl (some (.inl (-1)), g)))))))) := by rfl
def f_X4_between : Mf := (fun as g => match as with
  | [.inr (some 0), .inl a1, .inl a2] => (gC g)
  | _ => false, fun as g => match as with
  | [.inr (some 0), .inl a1, .inl a2] => (some (.inl (betV g a1 a2)), g)
  | _ => (none, g))
def ev_X4_between : Nat → Mf := fun j => (match Nat.beq j 18 with | true => f_X2_compared | false => (match Nat.beq j 11 with | true => f_X2_hasRow | false => (fun _ _ => false, fun _ g => (none, g))))
def K_X4_between : List (Nat × Nat) := []
set_option maxRecDepth 100000 in
theorem blk_X4_between_0 (E : Ex) (g : Sg) (a1 a2 : Int32) : seg (T_X4_between E ev_X4_between) K_X4_between 2000 0 [some (.inr (some 0)), some (.inl a1), some (.inl a2)] [] g = (if a1 = a2 then some (.inl (some (.inl (-1)), g)) else (if (b2i (inB a1 16 && rwC g (tn a1))) = 0 then some (.inl (some (.inl (-1)), g)) else (if (b2i (inB a2 16 && rwC g (tn a2))) = 0 then some (.inl (some (.inl (-1)), g)) else (if (inB a1 16 && inB a2 16 && inB (g 1 0) 5) = true then some (.inl (some (.inl (nI (btw (tn (g 1 0)) (nmC g) (tn a1) (tn a2)))), g)) else none)))) := by rfl
def f_X4_pairs : Mf := (fun as g => match as with
  | [.inr (some 0), .inl a1] => (gC g)
  | _ => false, fun as g => match as with
  | [.inr (some 0), .inl a1] => (some (.inl (if prB g a1 = true then cntC g 46 (tn a1) else -1)), (if prB g a1 = true then cntC g else g))
  | _ => (none, g))
def ev_X4_pairs : Nat → Mf := fun j => (match Nat.beq j 54 with | true => f_X4_count | false => (match Nat.beq j 60 with | true => f_X4_columnsOf | false => (match Nat.beq j 55 with | true => f_X4_isLaw | false => (fun _ _ => false, fun _ g => (none, g)))))
def K_X4_pairs : List (Nat × Nat) := []
set_option maxRecDepth 100000 in
theorem blk_X4_pairs_0 (E : Ex) (g : Sg) (a1 : Int32) : seg (T_X4_pairs E ev_X4_pairs) K_X4_pairs 2000 0 [some (.inr (some 0)), some (.inl a1)] [] g = (if (inB (g 1 0) 5) = true then (if (b2i (lawB (tn (g 1 0)) a1)) = 0 then some (.inl (some (.inl (-1)), g)) else (if (inB a1 625) = true then (if (nI (cols (tn a1))) = (g 1 0) then (if (gC g) = true then (if inB a1 625 = true then some (.inl (some (.inl ((cntC g) 46 a1.toNatClampNeg)), (cntC g))) else none) else none) else some (.inl (some (.inl (-1)), g))) else none)) else none) := by rfl
def f_X4_kinds : Mf := (fun as g => match as with
  | [.inr (some 0)] => (gC g)
  | _ => false, fun as g => match as with
  | [.inr (some 0)] => (some (.inl (nI (sm (fun b => ct1 (!decide (cntC g 46 b = 0))) 625))), (cntC g))
  | _ => (none, g))
def ev_X4_kinds : Nat → Mf := fun j => (match Nat.beq j 24 with | true => f_X3_unlikeSeen | false => (match Nat.beq j 54 with | true => f_X4_count | false => (fun _ _ => false, fun _ g => (none, g))))
def K_X4_kinds : List (Nat × Nat) := []
set_option maxRecDepth 100000 in
theorem blk_X4_kinds_0 (E : Ex) (g : Sg) : seg (T_X4_kinds E ev_X4_kinds) K_X4_kinds 2000 0 [some (.inr (some 0))] [] g = (if (gC g) = true then some (.inl (some (.inl (nI (sm (fun b => ct1 (!decide ((cntC g) 46 b = 0))) 625))), (cntC g))) else none) := by rfl
def f_X4_broken : Mf := (fun as g => match as with
  | [.inr (some 0), .inl a1] => (gC g)
  | _ => false, fun as g => match as with
  | [.inr (some 0), .inl a1] => (some (.inl (if lawB (tn (g 1 0)) a1 = true then cntC g 47 (tn a1) else -1)), (if lawB (tn (g 1 0)) a1 = true then cntC g else g))
  | _ => (none, g))
def ev_X4_broken : Nat → Mf := fun j => (match Nat.beq j 54 with | true => f_X4_count | false => (match Nat.beq j 55 with | true => f_X4_isLaw | false => (fun _ _ => false, fun _ g => (none, g))))
def K_X4_broken : List (Nat × Nat) := []
set_option maxRecDepth 100000 in
theorem blk_X4_broken_0 (E : Ex) (g : Sg) (a1 : Int32) : seg (T_X4_broken E ev_X4_broken) K_X4_broken 2000 0 [some (.inr (some 0)), some (.inl a1)] [] g = (if (inB (g 1 0) 5) = true then (if (b2i (lawB (tn (g 1 0)) a1)) = 0 then some (.inl (some (.inl (-1)), g)) else (if (gC g) = true then (if inB a1 625 = true then some (.inl (some (.inl ((cntC g) 47 a1.toNatClampNeg)), (cntC g))) else none) else none)) else none) := by rfl
def f_X4_sort : Mf := (fun as g => match as with
  | [.inr (some 0), .inl a1] => (gC g)
  | _ => false, fun as g => match as with
  | [.inr (some 0), .inl a1] => (some (.inl (if lawB (tn (g 1 0)) a1 = true then srtN (tn a1) else -1)), g)
  | _ => (none, g))
def ev_X4_sort : Nat → Mf := fun j => (match Nat.beq j 59 with | true => f_X4_digitOf | false => (match Nat.beq j 55 with | true => f_X4_isLaw | false => (fun _ _ => false, fun _ g => (none, g))))
def K_X4_sort : List (Nat × Nat) := [(17, 5)]
set_option maxRecDepth 100000 in
theorem blk_X4_sort_0 (E : Ex) (g : Sg) (a1 : Int32) : seg (T_X4_sort E ev_X4_sort) K_X4_sort 2000 0 [some (.inr (some 0)), some (.inl a1)] [] g = (if (inB (g 1 0) 5) = true then (if (b2i (lawB (tn (g 1 0)) a1)) = 0 then some (.inl (some (.inl (-1)), g)) else some (.inr (17, [some (.inr (some 0)), some (.inl a1), some (.inl (nI 0)), some (.inl (nI 0)), some (.inl (nI 0))], [], g))) else none) := by rfl
set_option maxRecDepth 100000 in
theorem blk_X4_sort_17 (E : Ex) (g : Sg) (x1 x2 x3 x4 : Int32) : seg (T_X4_sort E ev_X4_sort) K_X4_sort 2000 17 [some (.inr (some 0)), some (.inl x1), some (.inl x2), some (.inl x3), some (.inl x4)] [] g = (if (nI 4) ≤ x4 then (if x3 ≤ (nI 1) then (if x3 = (nI 1) then some (.inl (some (.inl (nI 3)), g)) else (if x2 ≤ (nI 1) then (if x2 = (nI 1) then some (.inl (some (.inl (nI 1)), g)) else some (.inl (some (.inl (nI 0)), g))) else some (.inl (some (.inl (nI 3)), g)))) else some (.inl (some (.inl (nI 2)), g))) else (if (inB x1 625 && inB x4 5) = true then (if (nI (D (tn x1) (tn x4))) = (nI 2) then some (.inr (17, [some (.inr (some 0)), some (.inl x1), some (.inl (x2 + nI 1)), some (.inl x3), some (.inl (x4 + nI 1))], [], g)) else (if (nI (D (tn x1) (tn x4))) ≤ (nI 2) then some (.inr (17, [some (.inr (some 0)), some (.inl x1), some (.inl x2), some (.inl x3), some (.inl (x4 + nI 1))], [], g)) else some (.inr (17, [some (.inr (some 0)), some (.inl x1), some (.inl x2), some (.inl (x3 + nI 1)), some (.inl (x4 + nI 1))], [], g)))) else none)) := by rfl
def f_X4_least : Mf := (fun as g => match as with
  | [.inr (some 0), .inl a1] => (gC g)
  | _ => false, fun as g => match as with
  | [.inr (some 0), .inl a1] => (some (.inl (if lawB (tn (g 1 0)) a1 = true then nI (min (tn a1) (tun (tn a1))) else -1)), g)
  | _ => (none, g))
def ev_X4_least : Nat → Mf := fun j => (match Nat.beq j 61 with | true => f_X4_turnedOf | false => (match Nat.beq j 55 with | true => f_X4_isLaw | false => (fun _ _ => false, fun _ g => (none, g))))
def K_X4_least : List (Nat × Nat) := []
set_option maxRecDepth 100000 in
theorem blk_X4_least_0 (E : Ex) (g : Sg) (a1 : Int32) : seg (T_X4_least E ev_X4_least) K_X4_least 2000 0 [some (.inr (some 0)), some (.inl a1)] [] g = (if (inB (g 1 0) 5) = true then (if (b2i (lawB (tn (g 1 0)) a1)) = 0 then some (.inl (some (.inl (-1)), g)) else (if (inB a1 625) = true then some (.inl (some (.inl (minI a1 (nI (tun (tn a1))))), g)) else none)) else none) := by rfl
def f_X4_said : Mf := (fun as g => match as with
  | [.inr (some 0), .inl a1, .inl a2] => (gC g)
  | _ => false, fun as g => match as with
  | [.inr (some 0), .inl a1, .inl a2] => (some (.inl (if (lawB (tn (g 1 0)) a1 && lawB (tn (g 1 0)) a2) = true then b2i (cov (tn a2) (tn a1) || cov (tun (tn a2)) (tn a1)) else -1)), g)
  | _ => (none, g))
def ev_X4_said : Nat → Mf := fun j => (match Nat.beq j 61 with | true => f_X4_turnedOf | false => (match Nat.beq j 62 with | true => f_X4_covers | false => (match Nat.beq j 55 with | true => f_X4_isLaw | false => (fun _ _ => false, fun _ g => (none, g)))))
def K_X4_said : List (Nat × Nat) := []
set_option maxRecDepth 100000 in
theorem blk_X4_said_0 (E : Ex) (g : Sg) (a1 a2 : Int32) : seg (T_X4_said E ev_X4_said) K_X4_said 2000 0 [some (.inr (some 0)), some (.inl a1), some (.inl a2)] [] g = (if (inB (g 1 0) 5) = true then (if (b2i (lawB (tn (g 1 0)) a1)) = 0 then some (.inl (some (.inl (-1)), g)) else (if (inB (g 1 0) 5) = true then (if (b2i (lawB (tn (g 1 0)) a2)) = 0 then some (.inl (some (.inl (-1)), g)) else (if (inB a2 625 && inB a1 625) = true then (if (b2i (cov (tn a2) (tn a1))) = 0 then (if (inB a2 625) = true then (if (inB (nI (tun (tn a2))) 625 && inB a1 625) = true then (if (b2i (cov (tn (nI (tun (tn a2)))) (tn a1))) = 0 then some (.inl (some (.inl (nI 0)), g)) else some (.inl (some (.inl (nI 1)), g))) else none) else none) else some (.inl (some (.inl (nI 1)), g))) else none)) else none)) else none) := by rfl
def f_X4_tell : Mf := (fun as g => match as with
  | [.inr (some 0), .inl a1, .inl a2] => (gH g && gC g)
  | _ => false, fun as g => match as with
  | [.inr (some 0), .inl a1, .inl a2] => (some (.inl (b2i (tlB (tn (g 1 0)) a1 a2))), (if tlB (tn (g 1 0)) a1 a2 = true then tlC g a1 a2 else g))
  | _ => (none, g))
def ev_X4_tell : Nat → Mf := fun j => (match Nat.beq j 53 with | true => f_X4_remember | false => (match Nat.beq j 55 with | true => f_X4_isLaw | false => (fun _ _ => false, fun _ g => (none, g))))
def K_X4_tell : List (Nat × Nat) := []
set_option maxRecDepth 100000 in
theorem blk_X4_tell_0 (E : Ex) (g : Sg) (a1 a2 : Int32) : seg (T_X4_tell E ev_X4_tell) K_X4_tell 2000 0 [some (.inr (some 0)), some (.inl a1), some (.inl a2)] [] g = (if a1 < 0 then some (.inl (some (.inl (nI 0)), g)) else (if (nI 4) ≤ a1 then some (.inl (some (.inl (nI 0)), g)) else (if a2 = 0 then (if (gH g) = true then (if inB a1 4 = true then some (.inl (some (.inl (nI 1)), (us (remC g) 6 (upd ((remC g) 6) a1.toNatClampNeg a2)))) else none) else none) else (if (inB (g 1 0) 5) = true then (if (b2i (lawB (tn (g 1 0)) a2)) = 0 then some (.inl (some (.inl (nI 0)), g)) else (if (gH g) = true then (if inB a1 4 = true then some (.inl (some (.inl (nI 1)), (us (remC g) 6 (upd ((remC g) 6) a1.toNatClampNeg a2)))) else none) else none)) else none)))) := by rfl
def f_X4_told : Mf := (fun as g => match as with
  | [.inr (some 0), .inl a1] => true
  | _ => false, fun as g => match as with
  | [.inr (some 0), .inl a1] => (some (.inl (if inB a1 4 = true then g 6 (tn a1) else -1)), g)
  | _ => (none, g))
def ev_X4_told : Nat → Mf := fun j => (fun _ _ => false, fun _ g => (none, g))
def K_X4_told : List (Nat × Nat) := []
set_option maxRecDepth 100000 in
theorem blk_X4_told_0 (E : Ex) (g : Sg) (a1 : Int32) : seg (T_X4_told E ev_X4_told) K_X4_told 2000 0 [some (.inr (some 0)), some (.inl a1)] [] g = (if a1 < 0 then some (.inl (some (.inl (-1)), g)) else (if (nI 4) ≤ a1 then some (.inl (some (.inl (-1)), g)) else (if inB a1 4 = true then some (.inl (some (.inl (g 6 a1.toNatClampNeg)), g)) else none))) := by rfl
