/-! WHAT THE STRETCHES DO -/
def f_X5_keep : Mf := (fun as g => match as with
  | [.inr (some 51)] => (gK g)
  | _ => false, fun as g => match as with
  | [.inr (some 51)] => (none, (keepM g))
  | _ => (none, g))
def ev_X5_keep : Nat → Mf := fun j => (fun _ _ => false, fun _ g => (none, g))
def K_X5_keep : List (Nat × Nat) := [(11, 2), (52, 2)]
set_option maxRecDepth 100000 in
theorem blk_X5_keep_0 (E : Ex) (g : Sg) : seg (T_X5_keep E ev_X5_keep) K_X5_keep 2000 0 [some (.inr (some 51))] [] g = (if (g 51 2) = (nI 6) then some (.inr (11, [some (.inr (some 51)), some (.inl (nI 0))], [], g)) else some (.inr (52, [some (.inr (some 51)), some (.inl (nI 0))], [], g))) := by rfl
set_option maxRecDepth 100000 in
theorem blk_X5_keep_52 (E : Ex) (g : Sg) (x1 : Int32) : seg (T_X5_keep E ev_X5_keep) K_X5_keep 2000 52 [some (.inr (some 51)), some (.inl x1)] [] g = (if (nI 133) ≤ x1 then some (.inl (none, (us g 51 (upd (g 51) 2 ((g 51 2) + (nI 1)))))) else (if inB x1 133 = true then (if inB (((nI 133) * (g 51 2)) + x1) 798 = true then some (.inr (52, [some (.inr (some 51)), some (.inl (x1 + nI 1))], [], (us g 53 (upd (g 53) (((nI 133) * (g 51 2)) + x1).toNatClampNeg (g 52 x1.toNatClampNeg))))) else none) else none)) := by rfl
set_option maxRecDepth 100000 in
theorem blk_X5_keep_11 (E : Ex) (g : Sg) (x1 : Int32) : seg (T_X5_keep E ev_X5_keep) K_X5_keep 2000 11 [some (.inr (some 51)), some (.inl x1)] [] g = (if (nI 665) ≤ x1 then some (.inr (52, [some (.inr (some 51)), some (.inl (nI 0))], [], (us g 51 (upd (g 51) 2 ((g 51 2) - (nI 1)))))) else (if inB (x1 + (nI 133)) 798 = true then (if inB x1 798 = true then some (.inr (11, [some (.inr (some 51)), some (.inl (x1 + nI 1))], [], (us g 53 (upd (g 53) x1.toNatClampNeg (g 53 (x1 + (nI 133)).toNatClampNeg))))) else none) else none)) := by rfl
def f_X5_undo : Mf := (fun as g => match as with
  | [.inr (some 51)] => (gK g)
  | _ => false, fun as g => match as with
  | [.inr (some 51)] => (some (.inl (b2i (!decide (g 51 2 = 0)))), (if g 51 2 = 0 then g else undM g))
  | _ => (none, g))
def ev_X5_undo : Nat → Mf := fun j => (fun _ _ => false, fun _ g => (none, g))
def K_X5_undo : List (Nat × Nat) := [(21, 2)]
set_option maxRecDepth 100000 in
theorem blk_X5_undo_0 (E : Ex) (g : Sg) : seg (T_X5_undo E ev_X5_undo) K_X5_undo 2000 0 [some (.inr (some 51))] [] g = (if (g 51 2) = 0 then some (.inl (some (.inl (nI 0)), g)) else some (.inr (21, [some (.inr (some 51)), some (.inl (nI 0))], [], (us g 51 (upd (g 51) 2 ((g 51 2) - (nI 1))))))) := by rfl
set_option maxRecDepth 100000 in
theorem blk_X5_undo_21 (E : Ex) (g : Sg) (x1 : Int32) : seg (T_X5_undo E ev_X5_undo) K_X5_undo 2000 21 [some (.inr (some 51)), some (.inl x1)] [] g = (if (nI 133) ≤ x1 then some (.inl (some (.inl (nI 1)), g)) else (if inB (((nI 133) * (g 51 2)) + x1) 798 = true then (if inB x1 133 = true then some (.inr (21, [some (.inr (some 51)), some (.inl (x1 + nI 1))], [], (us g 52 (upd (g 52) x1.toNatClampNeg (g 53 (((nI 133) * (g 51 2)) + x1).toNatClampNeg))))) else none) else none)) := by rfl
def f_X5_table : Mf := (fun as g => match as with
  | [.inr (some 51), .inl a1] => (gK g)
  | _ => false, fun as g => match as with
  | [.inr (some 51), .inl a1] => (some (.inl (b2i (isI a1 1 4))), (if isI a1 1 4 = true then tabM g a1 else g))
  | _ => (none, g))
def ev_X5_table : Nat → Mf := fun j => (match Nat.beq j 70 with | true => f_X5_keep | false => (match Nat.beq j 64 with | true => f_X5_isIn | false => (fun _ _ => false, fun _ g => (none, g))))
def K_X5_table : List (Nat × Nat) := [(17, 3)]
set_option maxRecDepth 100000 in
theorem blk_X5_table_0 (E : Ex) (g : Sg) (a1 : Int32) : seg (T_X5_table E ev_X5_table) K_X5_table 2000 0 [some (.inr (some 51)), some (.inl a1)] [] g = (if (b2i (isI a1 (nI 1) (nI 4))) = 0 then some (.inl (some (.inl (nI 0)), g)) else (if (gK g) = true then some (.inr (17, [some (.inr (some 51)), some (.inl a1), some (.inl (nI 0))], [], (keepM g))) else none)) := by rfl
set_option maxRecDepth 100000 in
theorem blk_X5_table_17 (E : Ex) (g : Sg) (x1 x2 : Int32) : seg (T_X5_table E ev_X5_table) K_X5_table 2000 17 [some (.inr (some 51)), some (.inl x1), some (.inl x2)] [] g = (if (nI 133) ≤ x2 then some (.inl (some (.inl (nI 1)), (us g 52 (upd (g 52) 128 x1)))) else (if inB x2 133 = true then some (.inr (17, [some (.inr (some 51)), some (.inl x1), some (.inl (x2 + nI 1))], [], (us g 52 (upd (g 52) x2.toNatClampNeg (nI 0))))) else none)) := by rfl
def f_X5_put : Mf := (fun as g => match as with
  | [.inr (some 51), .inl a1, .inl a2, .inl a3, .inl a4, .inl a5, .inl a6, .inl a7] => (gK g)
  | _ => false, fun as g => match as with
  | [.inr (some 51), .inl a1, .inl a2, .inl a3, .inl a4, .inl a5, .inl a6, .inl a7] => (some (.inl (b2i (putB a1 a2 a3 a4 a5 a6 a7))), (if putB a1 a2 a3 a4 a5 a6 a7 = true then putM g a1 a2 a3 a4 a5 a6 a7 else g))
  | _ => (none, g))
def ev_X5_put : Nat → Mf := fun j => (match Nat.beq j 67 with | true => f_X5_set | false => (match Nat.beq j 70 with | true => f_X5_keep | false => (match Nat.beq j 73 with | true => f_X5_isNumber | false => (match Nat.beq j 64 with | true => f_X5_isIn | false => (fun _ _ => false, fun _ g => (none, g))))))
def K_X5_put : List (Nat × Nat) := [(30, 8), (44, 8), (58, 8), (72, 8), (93, 9), (100, 8), (135, 10)]
set_option maxRecDepth 100000 in
theorem blk_X5_put_0 (E : Ex) (g : Sg) (a1 a2 a3 a4 a5 a6 a7 : Int32) : seg (T_X5_put E ev_X5_put) K_X5_put 2000 0 [some (.inr (some 51)), some (.inl a1), some (.inl a2), some (.inl a3), some (.inl a4), some (.inl a5), some (.inl a6), some (.inl a7)] [] g = (if (b2i (isI a1 (nI 0) (nI 15))) = 0 then some (.inl (some (.inl (nI 0)), g)) else (if (b2i (isI a2 (nI 0) (nI 4))) = 0 then some (.inl (some (.inl (nI 0)), g)) else (if (b2i (isI a3 (nI 0) (nI 4))) = 0 then some (.inl (some (.inl (nI 0)), g)) else some (.inr (30, [some (.inr (some 51)), some (.inl a1), some (.inl a2), some (.inl a3), some (.inl a4), some (.inl a5), some (.inl a6), some (.inl a7)], [], g))))) := by rfl
set_option maxRecDepth 100000 in
theorem blk_X5_put_30 (E : Ex) (g : Sg) (x1 x2 x3 x4 x5 x6 x7 : Int32) : seg (T_X5_put E ev_X5_put) K_X5_put 2000 30 [some (.inr (some 51)), some (.inl x1), some (.inl x2), some (.inl x3), some (.inl x4), some (.inl x5), some (.inl x6), some (.inl x7)] [] g = (if x3 < (nI 1) then some (.inr (44, [some (.inr (some 51)), some (.inl x1), some (.inl x2), some (.inl x3), some (.inl x4), some (.inl x5), some (.inl x6), some (.inl x7)], [], g)) else (if (b2i (fitB x2 x4)) = 0 then some (.inr (93, [some (.inr (some 51)), some (.inl x1), some (.inl x2), some (.inl x3), some (.inl x4), some (.inl x5), some (.inl x6), some (.inl x7), some (.inl (nI 0))], [], g)) else some (.inr (44, [some (.inr (some 51)), some (.inl x1), some (.inl x2), some (.inl x3), some (.inl x4), some (.inl x5), some (.inl x6), some (.inl x7)], [], g)))) := by rfl
set_option maxRecDepth 100000 in
theorem blk_X5_put_44 (E : Ex) (g : Sg) (x1 x2 x3 x4 x5 x6 x7 : Int32) : seg (T_X5_put E ev_X5_put) K_X5_put 2000 44 [some (.inr (some 51)), some (.inl x1), some (.inl x2), some (.inl x3), some (.inl x4), some (.inl x5), some (.inl x6), some (.inl x7)] [] g = (if x3 < (nI 2) then some (.inr (58, [some (.inr (some 51)), some (.inl x1), some (.inl x2), some (.inl x3), some (.inl x4), some (.inl x5), some (.inl x6), some (.inl x7)], [], g)) else (if (b2i (fitB x2 x5)) = 0 then some (.inr (93, [some (.inr (some 51)), some (.inl x1), some (.inl x2), some (.inl x3), some (.inl x4), some (.inl x5), some (.inl x6), some (.inl x7), some (.inl (nI 0))], [], g)) else some (.inr (58, [some (.inr (some 51)), some (.inl x1), some (.inl x2), some (.inl x3), some (.inl x4), some (.inl x5), some (.inl x6), some (.inl x7)], [], g)))) := by rfl
set_option maxRecDepth 100000 in
theorem blk_X5_put_93 (E : Ex) (g : Sg) (x1 x2 x3 x4 x5 x6 x7 x8 : Int32) : seg (T_X5_put E ev_X5_put) K_X5_put 2000 93 [some (.inr (some 51)), some (.inl x1), some (.inl x2), some (.inl x3), some (.inl x4), some (.inl x5), some (.inl x6), some (.inl x7), some (.inl x8)] [] g = (if x8 = 0 then some (.inl (some (.inl (nI 0)), g)) else some (.inr (100, [some (.inr (some 51)), some (.inl x1), some (.inl x2), some (.inl x3), some (.inl x4), some (.inl x5), some (.inl x6), some (.inl x7)], [], g))) := by rfl
set_option maxRecDepth 100000 in
theorem blk_X5_put_58 (E : Ex) (g : Sg) (x1 x2 x3 x4 x5 x6 x7 : Int32) : seg (T_X5_put E ev_X5_put) K_X5_put 2000 58 [some (.inr (some 51)), some (.inl x1), some (.inl x2), some (.inl x3), some (.inl x4), some (.inl x5), some (.inl x6), some (.inl x7)] [] g = (if x3 < (nI 3) then some (.inr (72, [some (.inr (some 51)), some (.inl x1), some (.inl x2), some (.inl x3), some (.inl x4), some (.inl x5), some (.inl x6), some (.inl x7)], [], g)) else (if (b2i (fitB x2 x6)) = 0 then some (.inr (93, [some (.inr (some 51)), some (.inl x1), some (.inl x2), some (.inl x3), some (.inl x4), some (.inl x5), some (.inl x6), some (.inl x7), some (.inl (nI 0))], [], g)) else some (.inr (72, [some (.inr (some 51)), some (.inl x1), some (.inl x2), some (.inl x3), some (.inl x4), some (.inl x5), some (.inl x6), some (.inl x7)], [], g)))) := by rfl
set_option maxRecDepth 100000 in
theorem blk_X5_put_100 (E : Ex) (g : Sg) (x1 x2 x3 x4 x5 x6 x7 : Int32) : seg (T_X5_put E ev_X5_put) K_X5_put 2000 100 [some (.inr (some 51)), some (.inl x1), some (.inl x2), some (.inl x3), some (.inl x4), some (.inl x5), some (.inl x6), some (.inl x7)] [] g = (if (gK g) = true then (if (inB (nI 8 * x1 + (nI 0)) 133) = true then (if (inB (nI 8 * x1 + (nI 1)) 133) = true then (if (inB (nI 8 * x1 + (nI 2)) 133) = true then (if (inB (nI 8 * x1 + (nI 3)) 133) = true then some (.inr (135, [some (.inr (some 51)), some (.inl x1), some (.inl x2), some (.inl x3), some (.inl x4), some (.inl x5), some (.inl x6), some (.inl x7), none, some (.inl (nI 0))], [], (us (us (us (us (keepM g) 52 (upd ((keepM g) 52) (nI 8 * x1 + (nI 0)).toNatClampNeg (nI 1))) 52 (upd ((us (keepM g) 52 (upd ((keepM g) 52) (nI 8 * x1 + (nI 0)).toNatClampNeg (nI 1))) 52) (nI 8 * x1 + (nI 1)).toNatClampNeg x2)) 52 (upd ((us (us (keepM g) 52 (upd ((keepM g) 52) (nI 8 * x1 + (nI 0)).toNatClampNeg (nI 1))) 52 (upd ((us (keepM g) 52 (upd ((keepM g) 52) (nI 8 * x1 + (nI 0)).toNatClampNeg (nI 1))) 52) (nI 8 * x1 + (nI 1)).toNatClampNeg x2)) 52) (nI 8 * x1 + (nI 2)).toNatClampNeg x3)) 52 (upd ((us (us (us (keepM g) 52 (upd ((keepM g) 52) (nI 8 * x1 + (nI 0)).toNatClampNeg (nI 1))) 52 (upd ((us (keepM g) 52 (upd ((keepM g) 52) (nI 8 * x1 + (nI 0)).toNatClampNeg (nI 1))) 52) (nI 8 * x1 + (nI 1)).toNatClampNeg x2)) 52 (upd ((us (us (keepM g) 52 (upd ((keepM g) 52) (nI 8 * x1 + (nI 0)).toNatClampNeg (nI 1))) 52 (upd ((us (keepM g) 52 (upd ((keepM g) 52) (nI 8 * x1 + (nI 0)).toNatClampNeg (nI 1))) 52) (nI 8 * x1 + (nI 1)).toNatClampNeg x2)) 52) (nI 8 * x1 + (nI 2)).toNatClampNeg x3)) 52) (nI 8 * x1 + (nI 3)).toNatClampNeg (nI 1))))) else none) else none) else none) else none) else none) := by rfl
set_option maxRecDepth 100000 in
theorem blk_X5_put_72 (E : Ex) (g : Sg) (x1 x2 x3 x4 x5 x6 x7 : Int32) : seg (T_X5_put E ev_X5_put) K_X5_put 2000 72 [some (.inr (some 51)), some (.inl x1), some (.inl x2), some (.inl x3), some (.inl x4), some (.inl x5), some (.inl x6), some (.inl x7)] [] g = (if x3 < (nI 4) then some (.inr (93, [some (.inr (some 51)), some (.inl x1), some (.inl x2), some (.inl x3), some (.inl x4), some (.inl x5), some (.inl x6), some (.inl x7), some (.inl (nI 1))], [], g)) else (if (b2i (fitB x2 x7)) = 0 then some (.inr (93, [some (.inr (some 51)), some (.inl x1), some (.inl x2), some (.inl x3), some (.inl x4), some (.inl x5), some (.inl x6), some (.inl x7), some (.inl (nI 0))], [], g)) else some (.inr (93, [some (.inr (some 51)), some (.inl x1), some (.inl x2), some (.inl x3), some (.inl x4), some (.inl x5), some (.inl x6), some (.inl x7), some (.inl (nI 1))], [], g)))) := by rfl
set_option maxRecDepth 100000 in
theorem blk_X5_put_135 (E : Ex) (g : Sg) (x1 x2 x3 x4 x5 x6 x7 x9 : Int32) : seg (T_X5_put E ev_X5_put) K_X5_put 2000 135 [some (.inr (some 51)), some (.inl x1), some (.inl x2), some (.inl x3), some (.inl x4), some (.inl x5), some (.inl x6), some (.inl x7), none, some (.inl x9)] [] g = (if (nI 4) ≤ x9 then some (.inl (some (.inl (nI 1)), g)) else (if x9 = 0 then (if x3 ≤ x9 then (if (inB (nI 8 * x1 + ((nI 4) + x9)) 133) = true then some (.inr (135, [some (.inr (some 51)), some (.inl x1), some (.inl x2), some (.inl x3), some (.inl x4), some (.inl x5), some (.inl x6), some (.inl x7), none, some (.inl (x9 + nI 1))], [], (us g 52 (upd (g 52) (nI 8 * x1 + ((nI 4) + x9)).toNatClampNeg (nI 1000))))) else none) else (if x4 = (nI 100) then (if (inB (nI 8 * x1 + ((nI 4) + x9)) 133) = true then some (.inr (135, [some (.inr (some 51)), some (.inl x1), some (.inl x2), some (.inl x3), some (.inl x4), some (.inl x5), some (.inl x6), some (.inl x7), none, some (.inl (x9 + nI 1))], [], (us g 52 (upd (g 52) (nI 8 * x1 + ((nI 4) + x9)).toNatClampNeg (nI 1000))))) else none) else (if (inB (nI 8 * x1 + ((nI 4) + x9)) 133) = true then some (.inr (135, [some (.inr (some 51)), some (.inl x1), some (.inl x2), some (.inl x3), some (.inl x4), some (.inl x5), some (.inl x6), some (.inl x7), none, some (.inl (x9 + nI 1))], [], (us g 52 (upd (g 52) (nI 8 * x1 + ((nI 4) + x9)).toNatClampNeg x4)))) else none))) else (if x9 = (nI 1) then (if x3 ≤ x9 then (if (inB (nI 8 * x1 + ((nI 4) + x9)) 133) = true then some (.inr (135, [some (.inr (some 51)), some (.inl x1), some (.inl x2), some (.inl x3), some (.inl x4), some (.inl x5), some (.inl x6), some (.inl x7), none, some (.inl (x9 + nI 1))], [], (us g 52 (upd (g 52) (nI 8 * x1 + ((nI 4) + x9)).toNatClampNeg (nI 1000))))) else none) else (if x5 = (nI 100) then (if (inB (nI 8 * x1 + ((nI 4) + x9)) 133) = true then some (.inr (135, [some (.inr (some 51)), some (.inl x1), some (.inl x2), some (.inl x3), some (.inl x4), some (.inl x5), some (.inl x6), some (.inl x7), none, some (.inl (x9 + nI 1))], [], (us g 52 (upd (g 52) (nI 8 * x1 + ((nI 4) + x9)).toNatClampNeg (nI 1000))))) else none) else (if (inB (nI 8 * x1 + ((nI 4) + x9)) 133) = true then some (.inr (135, [some (.inr (some 51)), some (.inl x1), some (.inl x2), some (.inl x3), some (.inl x4), some (.inl x5), some (.inl x6), some (.inl x7), none, some (.inl (x9 + nI 1))], [], (us g 52 (upd (g 52) (nI 8 * x1 + ((nI 4) + x9)).toNatClampNeg x5)))) else none))) else (if x9 = (nI 2) then (if x3 ≤ x9 then (if (inB (nI 8 * x1 + ((nI 4) + x9)) 133) = true then some (.inr (135, [some (.inr (some 51)), some (.inl x1), some (.inl x2), some (.inl x3), some (.inl x4), some (.inl x5), some (.inl x6), some (.inl x7), none, some (.inl (x9 + nI 1))], [], (us g 52 (upd (g 52) (nI 8 * x1 + ((nI 4) + x9)).toNatClampNeg (nI 1000))))) else none) else (if x6 = (nI 100) then (if (inB (nI 8 * x1 + ((nI 4) + x9)) 133) = true then some (.inr (135, [some (.inr (some 51)), some (.inl x1), some (.inl x2), some (.inl x3), some (.inl x4), some (.inl x5), some (.inl x6), some (.inl x7), none, some (.inl (x9 + nI 1))], [], (us g 52 (upd (g 52) (nI 8 * x1 + ((nI 4) + x9)).toNatClampNeg (nI 1000))))) else none) else (if (inB (nI 8 * x1 + ((nI 4) + x9)) 133) = true then some (.inr (135, [some (.inr (some 51)), some (.inl x1), some (.inl x2), some (.inl x3), some (.inl x4), some (.inl x5), some (.inl x6), some (.inl x7), none, some (.inl (x9 + nI 1))], [], (us g 52 (upd (g 52) (nI 8 * x1 + ((nI 4) + x9)).toNatClampNeg x6)))) else none))) else (if x3 ≤ x9 then (if (inB (nI 8 * x1 + ((nI 4) + x9)) 133) = true then some (.inr (135, [some (.inr (some 51)), some (.inl x1), some (.inl x2), some (.inl x3), some (.inl x4), some (.inl x5), some (.inl x6), some (.inl x7), none, some (.inl (x9 + nI 1))], [], (us g 52 (upd (g 52) (nI 8 * x1 + ((nI 4) + x9)).toNatClampNeg (nI 1000))))) else none) else (if x7 = (nI 100) then (if (inB (nI 8 * x1 + ((nI 4) + x9)) 133) = true then some (.inr (135, [some (.inr (some 51)), some (.inl x1), some (.inl x2), some (.inl x3), some (.inl x4), some (.inl x5), some (.inl x6), some (.inl x7), none, some (.inl (x9 + nI 1))], [], (us g 52 (upd (g 52) (nI 8 * x1 + ((nI 4) + x9)).toNatClampNeg (nI 1000))))) else none) else (if (inB (nI 8 * x1 + ((nI 4) + x9)) 133) = true then some (.inr (135, [some (.inr (some 51)), some (.inl x1), some (.inl x2), some (.inl x3), some (.inl x4), some (.inl x5), some (.inl x6), some (.inl x7), none, some (.inl (x9 + nI 1))], [], (us g 52 (upd (g 52) (nI 8 * x1 + ((nI 4) + x9)).toNatClampNeg x7)))) else none))))))) := by rfl
def f_X5_change : Mf := (fun as g => match as with
  | [.inr (some 51), .inl a1, .inl a2, .inl a3] => (gK g && gM g)
  | _ => false, fun as g => match as with
  | [.inr (some 51), .inl a1, .inl a2, .inl a3] => (some (.inl (b2i (chM g a1 a2 a3))), (if chM g a1 a2 a3 = true then chgM g a1 a2 a3 else g))
  | _ => (none, g))
def ev_X5_change : Nat → Mf := fun j => (match Nat.beq j 67 with | true => f_X5_set | false => (match Nat.beq j 70 with | true => f_X5_keep | false => (match Nat.beq j 73 with | true => f_X5_isNumber | false => (match Nat.beq j 66 with | true => f_X5_get | false => (match Nat.beq j 69 with | true => f_X5_isColumn | false => (match Nat.beq j 68 with | true => f_X5_isRow | false => (fun _ _ => false, fun _ g => (none, g))))))))
def K_X5_change : List (Nat × Nat) := []
set_option maxRecDepth 100000 in
theorem blk_X5_change_0 (E : Ex) (g : Sg) (a1 a2 a3 : Int32) : seg (T_X5_change E ev_X5_change) K_X5_change 2000 0 [some (.inr (some 51)), some (.inl a1), some (.inl a2), some (.inl a3)] [] g = (if (b2i (inB a1 16 && rwM g (tn a1))) = 0 then some (.inl (some (.inl (nI 0)), g)) else (if (b2i (isI a2 0 (g 52 128 - 1))) = 0 then some (.inl (some (.inl (nI 0)), g)) else (if (inB (nI 8 * a1 + (nI 2)) 133) = true then (if (g 52 (nI 8 * a1 + (nI 2)).toNatClampNeg) ≤ a2 then some (.inl (some (.inl (nI 0)), g)) else (if (inB (nI 8 * a1 + (nI 1)) 133) = true then (if (b2i (fitB (g 52 (nI 8 * a1 + (nI 1)).toNatClampNeg) a3)) = 0 then some (.inl (some (.inl (nI 0)), g)) else (if (gK g) = true then (if a3 = (nI 100) then (if (inB (nI 8 * a1 + ((nI 4) + a2)) 133) = true then some (.inl (some (.inl (nI 1)), (us (keepM g) 52 (upd ((keepM g) 52) (nI 8 * a1 + ((nI 4) + a2)).toNatClampNeg (nI 1000))))) else none) else (if (inB (nI 8 * a1 + ((nI 4) + a2)) 133) = true then some (.inl (some (.inl (nI 1)), (us (keepM g) 52 (upd ((keepM g) 52) (nI 8 * a1 + ((nI 4) + a2)).toNatClampNeg a3)))) else none)) else none)) else none)) else none))) := by rfl
def f_X5_strike : Mf := (fun as g => match as with
  | [.inr (some 51), .inl a1] => (gK g)
  | _ => false, fun as g => match as with
  | [.inr (some 51), .inl a1] => (some (.inl (b2i (rowM g a1))), (if rowM g a1 = true then strM g a1 else g))
  | _ => (none, g))
def ev_X5_strike : Nat → Mf := fun j => (match Nat.beq j 67 with | true => f_X5_set | false => (match Nat.beq j 70 with | true => f_X5_keep | false => (match Nat.beq j 68 with | true => f_X5_isRow | false => (fun _ _ => false, fun _ g => (none, g)))))
def K_X5_strike : List (Nat × Nat) := []
set_option maxRecDepth 100000 in
theorem blk_X5_strike_0 (E : Ex) (g : Sg) (a1 : Int32) : seg (T_X5_strike E ev_X5_strike) K_X5_strike 2000 0 [some (.inr (some 51)), some (.inl a1)] [] g = (if (b2i (inB a1 16 && rwM g (tn a1))) = 0 then some (.inl (some (.inl (nI 0)), g)) else (if (gK g) = true then (if (inB (nI 8 * a1 + (nI 0)) 133) = true then some (.inl (some (.inl (nI 1)), (us (keepM g) 52 (upd ((keepM g) 52) (nI 8 * a1 + (nI 0)).toNatClampNeg (nI 0))))) else none) else none)) := by rfl
def f_X5_price : Mf := (fun as g => match as with
  | [.inr (some 51), .inl a1, .inl a2] => (gK g)
  | _ => false, fun as g => match as with
  | [.inr (some 51), .inl a1, .inl a2] => (some (.inl (b2i (rowM g a1 && isI a2 0 99))), (if (rowM g a1 && isI a2 0 99) = true then priM g a1 a2 else g))
  | _ => (none, g))
def ev_X5_price : Nat → Mf := fun j => (match Nat.beq j 67 with | true => f_X5_set | false => (match Nat.beq j 70 with | true => f_X5_keep | false => (match Nat.beq j 64 with | true => f_X5_isIn | false => (match Nat.beq j 68 with | true => f_X5_isRow | false => (fun _ _ => false, fun _ g => (none, g))))))
def K_X5_price : List (Nat × Nat) := []
set_option maxRecDepth 100000 in
theorem blk_X5_price_0 (E : Ex) (g : Sg) (a1 a2 : Int32) : seg (T_X5_price E ev_X5_price) K_X5_price 2000 0 [some (.inr (some 51)), some (.inl a1), some (.inl a2)] [] g = (if (b2i (inB a1 16 && rwM g (tn a1))) = 0 then some (.inl (some (.inl (nI 0)), g)) else (if (b2i (isI a2 (nI 0) (nI 99))) = 0 then some (.inl (some (.inl (nI 0)), g)) else (if (gK g) = true then (if (inB (nI 8 * a1 + (nI 3)) 133) = true then some (.inl (some (.inl (nI 1)), (us (keepM g) 52 (upd ((keepM g) 52) (nI 8 * a1 + (nI 3)).toNatClampNeg a2)))) else none) else none))) := by rfl
def f_X5_swap : Mf := (fun as g => match as with
  | [.inr (some 51), .inl a1, .inl a2] => (gK g && gM g)
  | _ => false, fun as g => match as with
  | [.inr (some 51), .inl a1, .inl a2] => (some (.inl (b2i (swM g a1 a2))), (if swM g a1 a2 = true then swpM g a1 a2 else g))
  | _ => (none, g))
def ev_X5_swap : Nat → Mf := fun j => (match Nat.beq j 67 with | true => f_X5_set | false => (match Nat.beq j 70 with | true => f_X5_keep | false => (match Nat.beq j 66 with | true => f_X5_get | false => (match Nat.beq j 68 with | true => f_X5_isRow | false => (match Nat.beq j 69 with | true => f_X5_isColumn | false => (fun _ _ => false, fun _ g => (none, g)))))))
def K_X5_swap : List (Nat × Nat) := [(20, 4), (68, 4)]
set_option maxRecDepth 100000 in
theorem blk_X5_swap_0 (E : Ex) (g : Sg) (a1 a2 : Int32) : seg (T_X5_swap E ev_X5_swap) K_X5_swap 2000 0 [some (.inr (some 51)), some (.inl a1), some (.inl a2)] [] g = (if (b2i (isI a1 0 (g 52 128 - 1))) = 0 then some (.inl (some (.inl (nI 0)), g)) else (if (b2i (isI a2 0 (g 52 128 - 1))) = 0 then some (.inl (some (.inl (nI 0)), g)) else some (.inr (20, [some (.inr (some 51)), some (.inl a1), some (.inl a2), some (.inl (nI 0))], [], g)))) := by rfl
set_option maxRecDepth 100000 in
theorem blk_X5_swap_20 (E : Ex) (g : Sg) (x1 x2 x3 : Int32) : seg (T_X5_swap E ev_X5_swap) K_X5_swap 2000 20 [some (.inr (some 51)), some (.inl x1), some (.inl x2), some (.inl x3)] [] g = (if (nI 16) ≤ x3 then (if (gK g) = true then some (.inr (68, [some (.inr (some 51)), some (.inl x1), some (.inl x2), some (.inl (nI 0))], [], (keepM g))) else none) else (if (b2i (inB x3 16 && rwM g (tn x3))) = 0 then some (.inr (20, [some (.inr (some 51)), some (.inl x1), some (.inl x2), some (.inl (x3 + nI 1))], [], g)) else (if (inB (nI 8 * x3 + (nI 2)) 133) = true then (if (g 52 (nI 8 * x3 + (nI 2)).toNatClampNeg) ≤ x1 then some (.inl (some (.inl (nI 0)), g)) else (if (inB (nI 8 * x3 + (nI 2)) 133) = true then (if x2 < (g 52 (nI 8 * x3 + (nI 2)).toNatClampNeg) then some (.inr (20, [some (.inr (some 51)), some (.inl x1), some (.inl x2), some (.inl (x3 + nI 1))], [], g)) else some (.inl (some (.inl (nI 0)), g))) else none)) else none))) := by rfl
set_option maxRecDepth 100000 in
theorem blk_X5_swap_68 (E : Ex) (g : Sg) (x1 x2 x3 : Int32) : seg (T_X5_swap E ev_X5_swap) K_X5_swap 2000 68 [some (.inr (some 51)), some (.inl x1), some (.inl x2), some (.inl x3)] [] g = (if (nI 16) ≤ x3 then some (.inl (some (.inl (nI 1)), g)) else (if (b2i (inB x3 16 && rwM g (tn x3))) = 0 then some (.inr (68, [some (.inr (some 51)), some (.inl x1), some (.inl x2), some (.inl (x3 + nI 1))], [], g)) else (if (inB (nI 8 * x3 + ((nI 4) + x1)) 133) = true then (if (inB (nI 8 * x3 + ((nI 4) + x2)) 133) = true then (if (inB (nI 8 * x3 + ((nI 4) + x1)) 133) = true then (if (inB (nI 8 * x3 + ((nI 4) + x2)) 133) = true then some (.inr (68, [some (.inr (some 51)), some (.inl x1), some (.inl x2), some (.inl (x3 + nI 1))], [], (us (us g 52 (upd (g 52) (nI 8 * x3 + ((nI 4) + x1)).toNatClampNeg (g 52 (nI 8 * x3 + ((nI 4) + x2)).toNatClampNeg))) 52 (upd ((us g 52 (upd (g 52) (nI 8 * x3 + ((nI 4) + x1)).toNatClampNeg (g 52 (nI 8 * x3 + ((nI 4) + x2)).toNatClampNeg))) 52) (nI 8 * x3 + ((nI 4) + x2)).toNatClampNeg (g 52 (nI 8 * x3 + ((nI 4) + x1)).toNatClampNeg))))) else none) else none) else none) else none))) := by rfl
def f_X5_at : Mf := (fun as g => match as with
  | [.inr (some 51), .inl a1, .inl a2] => (gM g)
  | _ => false, fun as g => match as with
  | [.inr (some 51), .inl a1, .inl a2] => (some (.inl (atM g a1 a2)), g)
  | _ => (none, g))
def ev_X5_at : Nat → Mf := fun j => (match Nat.beq j 66 with | true => f_X5_get | false => (match Nat.beq j 69 with | true => f_X5_isColumn | false => (match Nat.beq j 68 with | true => f_X5_isRow | false => (fun _ _ => false, fun _ g => (none, g)))))
def K_X5_at : List (Nat × Nat) := []
set_option maxRecDepth 100000 in
theorem blk_X5_at_0 (E : Ex) (g : Sg) (a1 a2 : Int32) : seg (T_X5_at E ev_X5_at) K_X5_at 2000 0 [some (.inr (some 51)), some (.inl a1), some (.inl a2)] [] g = (if (b2i (inB a1 16 && rwM g (tn a1))) = 0 then some (.inl (some (.inl (nI 1001)), g)) else (if (b2i (isI a2 0 (g 52 128 - 1))) = 0 then some (.inl (some (.inl (nI 1001)), g)) else (if (inB (nI 8 * a1 + ((nI 4) + a2)) 133) = true then some (.inl (some (.inl (g 52 (nI 8 * a1 + ((nI 4) + a2)).toNatClampNeg)), g)) else none))) := by rfl
def f_X5_row : Mf := (fun as g => match as with
  | [.inr (some 51), .inl a1, .inl a2] => true
  | _ => false, fun as g => match as with
  | [.inr (some 51), .inl a1, .inl a2] => (some (.inl (rwvM g a1 a2)), g)
  | _ => (none, g))
def ev_X5_row : Nat → Mf := fun j => (match Nat.beq j 68 with | true => f_X5_isRow | false => (match Nat.beq j 66 with | true => f_X5_get | false => (match Nat.beq j 64 with | true => f_X5_isIn | false => (fun _ _ => false, fun _ g => (none, g)))))
def K_X5_row : List (Nat × Nat) := []
set_option maxRecDepth 100000 in
theorem blk_X5_row_0 (E : Ex) (g : Sg) (a1 a2 : Int32) : seg (T_X5_row E ev_X5_row) K_X5_row 2000 0 [some (.inr (some 51)), some (.inl a1), some (.inl a2)] [] g = (if (b2i (isI a1 (nI 0) (nI 15))) = 0 then some (.inl (some (.inl (-1)), g)) else (if a2 = 0 then (if (inB (nI 8 * a1 + (nI 0)) 133) = true then some (.inl (some (.inl (g 52 (nI 8 * a1 + (nI 0)).toNatClampNeg)), g)) else none) else (if (b2i (inB a1 16 && rwM g (tn a1))) = 0 then some (.inl (some (.inl (-1)), g)) else (if (b2i (isI a2 (nI 1) (nI 3))) = 0 then some (.inl (some (.inl (-1)), g)) else (if a2 = (nI 1) then (if (inB (nI 8 * a1 + (nI 1)) 133) = true then some (.inl (some (.inl (g 52 (nI 8 * a1 + (nI 1)).toNatClampNeg)), g)) else none) else (if a2 = (nI 2) then (if (inB (nI 8 * a1 + (nI 2)) 133) = true then some (.inl (some (.inl (g 52 (nI 8 * a1 + (nI 2)).toNatClampNeg)), g)) else none) else (if (inB (nI 8 * a1 + (nI 3)) 133) = true then some (.inl (some (.inl (g 52 (nI 8 * a1 + (nI 3)).toNatClampNeg)), g)) else none))))))) := by rfl
def f_X5_between : Mf := (fun as g => match as with
  | [.inr (some 51), .inl a1, .inl a2] => (gM g)
  | _ => false, fun as g => match as with
  | [.inr (some 51), .inl a1, .inl a2] => (some (.inl (betM g a1 a2)), g)
  | _ => (none, g))
def ev_X5_between : Nat → Mf := fun j => (match Nat.beq j 84 with | true => f_X5_between0 | false => (match Nat.beq j 68 with | true => f_X5_isRow | false => (fun _ _ => false, fun _ g => (none, g))))
def K_X5_between : List (Nat × Nat) := []
set_option maxRecDepth 100000 in
theorem blk_X5_between_0 (E : Ex) (g : Sg) (a1 a2 : Int32) : seg (T_X5_between E ev_X5_between) K_X5_between 2000 0 [some (.inr (some 51)), some (.inl a1), some (.inl a2)] [] g = (if (b2i (inB a1 16 && rwM g (tn a1))) = 0 then some (.inl (some (.inl (-1)), g)) else (if (b2i (inB a2 16 && rwM g (tn a2))) = 0 then some (.inl (some (.inl (-1)), g)) else (if a1 = a2 then some (.inl (some (.inl (-1)), g)) else (if (inB a1 16 && inB a2 16 && inB (g 52 128) 5) = true then some (.inl (some (.inl (nI (btw (tn (g 52 128)) (nmM g) (tn a1) (tn a2)))), g)) else none)))) := by rfl
def f_X5_pairs : Mf := (fun as g => match as with
  | [.inr (some 51), .inl a1] => (gM g)
  | _ => false, fun as g => match as with
  | [.inr (some 51), .inl a1] => (some (.inl (if prM g a1 = true then cntM g 54 (tn a1) else -1)), (if prM g a1 = true then cntM g else g))
  | _ => (none, g))
def ev_X5_pairs : Nat → Mf := fun j => (match Nat.beq j 86 with | true => f_X5_counts | false => (match Nat.beq j 83 with | true => f_X5_digit | false => (match Nat.beq j 65 with | true => f_X5_columns | false => (match Nat.beq j 64 with | true => f_X5_isIn | false => (match Nat.beq j 87 with | true => f_X5_most | false => (fun _ _ => false, fun _ g => (none, g)))))))
def K_X5_pairs : List (Nat × Nat) := [(18, 3)]
set_option maxRecDepth 100000 in
theorem blk_X5_pairs_0 (E : Ex) (g : Sg) (a1 : Int32) : seg (T_X5_pairs E ev_X5_pairs) K_X5_pairs 2000 0 [some (.inr (some 51)), some (.inl a1)] [] g = (if (inB (g 52 128) 5) = true then (if (b2i (isI a1 (nI 0) ((nI (5 ^ tn (g 52 128))) - (nI 1)))) = 0 then some (.inl (some (.inl (-1)), g)) else some (.inr (18, [some (.inr (some 51)), some (.inl a1), some (.inl (nI 0))], [], g))) else none) := by rfl
set_option maxRecDepth 100000 in
theorem blk_X5_pairs_18 (E : Ex) (g : Sg) (x1 x2 : Int32) : seg (T_X5_pairs E ev_X5_pairs) K_X5_pairs 2000 18 [some (.inr (some 51)), some (.inl x1), some (.inl x2)] [] g = (if (g 52 128) ≤ x2 then (if (inB (g 52 128) 5) = true then (if inB x1 625 = true then some (.inl (some (.inl ((us g 54 (seenP (rwM g) (btw (tn (g 52 128)) (nmM g)) (g 54) 16 0)) 54 x1.toNatClampNeg)), (us g 54 (seenP (rwM g) (btw (tn (g 52 128)) (nmM g)) (g 54) 16 0)))) else none) else none) else (if (inB x1 625 && inB x2 4) = true then (if (nI (D (tn x1) (tn x2))) = 0 then some (.inl (some (.inl (-1)), g)) else some (.inr (18, [some (.inr (some 51)), some (.inl x1), some (.inl (x2 + nI 1))], [], g))) else none)) := by rfl
def f_X5_kinds : Mf := (fun as g => match as with
  | [.inr (some 51)] => (gM g)
  | _ => false, fun as g => match as with
  | [.inr (some 51)] => (some (.inl (nI (sm (fun b => ct1 (decide (0 < cntM g 54 b))) 625))), (cntM g))
  | _ => (none, g))
def ev_X5_kinds : Nat → Mf := fun j => (match Nat.beq j 86 with | true => f_X5_counts | false => (fun _ _ => false, fun _ g => (none, g)))
def K_X5_kinds : List (Nat × Nat) := [(8, 3)]
set_option maxRecDepth 100000 in
theorem blk_X5_kinds_0 (E : Ex) (g : Sg) : seg (T_X5_kinds E ev_X5_kinds) K_X5_kinds 2000 0 [some (.inr (some 51))] [] g = (if (inB (g 52 128) 5) = true then some (.inr (8, [some (.inr (some 51)), some (.inl (nI 0)), some (.inl (nI 0))], [], (us g 54 (seenP (rwM g) (btw (tn (g 52 128)) (nmM g)) (g 54) 16 0)))) else none) := by rfl
set_option maxRecDepth 100000 in
theorem blk_X5_kinds_8 (E : Ex) (g : Sg) (x1 x2 : Int32) : seg (T_X5_kinds E ev_X5_kinds) K_X5_kinds 2000 8 [some (.inr (some 51)), some (.inl x1), some (.inl x2)] [] g = (if (nI 625) ≤ x2 then some (.inl (some (.inl x1), g)) else (if inB x2 625 = true then (if (g 54 x2.toNatClampNeg) ≤ 0 then some (.inr (8, [some (.inr (some 51)), some (.inl (x1 + (nI 0))), some (.inl (x2 + nI 1))], [], g)) else some (.inr (8, [some (.inr (some 51)), some (.inl (x1 + (nI 1))), some (.inl (x2 + nI 1))], [], g))) else none)) := by rfl
def f_X5_least : Mf := (fun as g => match as with
  | [.inr (some 51), .inl a1] => (gM g)
  | _ => false, fun as g => match as with
  | [.inr (some 51), .inl a1] => (some (.inl (if lawB (tn (g 52 128)) a1 = true then nI (min (tn a1) (tun (tn a1))) else -1)), g)
  | _ => (none, g))
def ev_X5_least : Nat → Mf := fun j => (match Nat.beq j 92 with | true => f_X5_least0 | false => (match Nat.beq j 90 with | true => f_X5_isLaw | false => (fun _ _ => false, fun _ g => (none, g))))
def K_X5_least : List (Nat × Nat) := []
set_option maxRecDepth 100000 in
theorem blk_X5_least_0 (E : Ex) (g : Sg) (a1 : Int32) : seg (T_X5_least E ev_X5_least) K_X5_least 2000 0 [some (.inr (some 51)), some (.inl a1)] [] g = (if (inB (g 52 128) 5) = true then (if (b2i (lawB (tn (g 52 128)) a1)) = 0 then some (.inl (some (.inl (-1)), g)) else (if (inB a1 625) = true then some (.inl (some (.inl (nI (min (tn a1) (tun (tn a1))))), g)) else none)) else none) := by rfl
def f_X5_broken : Mf := (fun as g => match as with
  | [.inr (some 51), .inl a1] => (gM g)
  | _ => false, fun as g => match as with
  | [.inr (some 51), .inl a1] => (some (.inl (if lawB (tn (g 52 128)) a1 = true then nI (brN (tn (g 52 128)) (rwM g) (nmM g) (tn a1)) else -1)), g)
  | _ => (none, g))
def ev_X5_broken : Nat → Mf := fun j => (match Nat.beq j 96 with | true => f_X5_broken0 | false => (match Nat.beq j 90 with | true => f_X5_isLaw | false => (fun _ _ => false, fun _ g => (none, g))))
def K_X5_broken : List (Nat × Nat) := []
set_option maxRecDepth 100000 in
theorem blk_X5_broken_0 (E : Ex) (g : Sg) (a1 : Int32) : seg (T_X5_broken E ev_X5_broken) K_X5_broken 2000 0 [some (.inr (some 51)), some (.inl a1)] [] g = (if (inB (g 52 128) 5) = true then (if (b2i (lawB (tn (g 52 128)) a1)) = 0 then some (.inl (some (.inl (-1)), g)) else (if (inB a1 625 && inB (g 52 128) 5) = true then some (.inl (some (.inl (nI (brN (tn (g 52 128)) (rwM g) (nmM g) (tn a1)))), g)) else none)) else none) := by rfl
def f_X5_breaker : Mf := (fun as g => match as with
  | [.inr (some 51), .inl a1, .inl a2, .inl a3] => (gM g)
  | _ => false, fun as g => match as with
  | [.inr (some 51), .inl a1, .inl a2, .inl a3] => (some (.inl (if bkB (tn (g 52 128)) a1 a2 a3 = true then pickV a3 (fou (fun s t => brB (tn (g 52 128)) (rwM g) (nmM g) (tn a1) s t) 16 0 (tn a2)) else -1)), g)
  | _ => (none, g))
def ev_X5_breaker : Nat → Mf := fun j => (match Nat.beq j 95 with | true => f_X5_breaks | false => (match Nat.beq j 64 with | true => f_X5_isIn | false => (match Nat.beq j 90 with | true => f_X5_isLaw | false => (fun _ _ => false, fun _ g => (none, g)))))
def K_X5_breaker : List (Nat × Nat) := [(29, 6), (42, 7)]
set_option maxRecDepth 100000 in
theorem blk_X5_breaker_0 (E : Ex) (g : Sg) (a1 a2 a3 : Int32) : seg (T_X5_breaker E ev_X5_breaker) K_X5_breaker 2000 0 [some (.inr (some 51)), some (.inl a1), some (.inl a2), some (.inl a3)] [] g = (if (inB (g 52 128) 5) = true then (if (b2i (lawB (tn (g 52 128)) a1)) = 0 then some (.inl (some (.inl (-1)), g)) else (if (b2i (isI a3 (nI 0) (nI 1))) = 0 then some (.inl (some (.inl (-1)), g)) else (if 0 ≤ a2 then some (.inr (29, [some (.inr (some 51)), some (.inl a1), some (.inl a2), some (.inl a3), some (.inl (nI 0)), some (.inl (nI 0))], [], g)) else some (.inl (some (.inl (-1)), g))))) else none) := by rfl
set_option maxRecDepth 100000 in
theorem blk_X5_breaker_29 (E : Ex) (g : Sg) (x1 x2 x3 x4 x5 : Int32) : seg (T_X5_breaker E ev_X5_breaker) K_X5_breaker 2000 29 [some (.inr (some 51)), some (.inl x1), some (.inl x2), some (.inl x3), some (.inl x4), some (.inl x5)] [] g = (if (nI 16) ≤ x5 then some (.inl (some (.inl (-1)), g)) else some (.inr (42, [some (.inr (some 51)), some (.inl x1), some (.inl x2), some (.inl x3), some (.inl x4), some (.inl x5), some (.inl (x5 + (nI 1)))], [], g))) := by rfl
set_option maxRecDepth 100000 in
theorem blk_X5_breaker_42 (E : Ex) (g : Sg) (x1 x2 x3 x4 x5 x6 : Int32) : seg (T_X5_breaker E ev_X5_breaker) K_X5_breaker 2000 42 [some (.inr (some 51)), some (.inl x1), some (.inl x2), some (.inl x3), some (.inl x4), some (.inl x5), some (.inl x6)] [] g = (if (nI 16) ≤ x6 then some (.inr (29, [some (.inr (some 51)), some (.inl x1), some (.inl x2), some (.inl x3), some (.inl x4), some (.inl (x5 + nI 1))], [], g)) else (if (inB x1 625 && inB x5 16 && inB x6 16 && inB (g 52 128) 5) = true then (if (b2i (brB (tn (g 52 128)) (rwM g) (nmM g) (tn x1) (tn x5) (tn x6))) = 0 then some (.inr (42, [some (.inr (some 51)), some (.inl x1), some (.inl x2), some (.inl x3), some (.inl x4), some (.inl x5), some (.inl (x6 + nI 1))], [], g)) else (if x4 = x2 then (if x3 = 0 then some (.inl (some (.inl x5), g)) else some (.inl (some (.inl x6), g))) else some (.inr (42, [some (.inr (some 51)), some (.inl x1), some (.inl x2), some (.inl x3), some (.inl (x4 + nI 1)), some (.inl x5), some (.inl (x6 + nI 1))], [], g)))) else none)) := by rfl
def f_X5_said : Mf := (fun as g => match as with
  | [.inr (some 51), .inl a1, .inl a2] => (gM g)
  | _ => false, fun as g => match as with
  | [.inr (some 51), .inl a1, .inl a2] => (some (.inl (if (lawB (tn (g 52 128)) a1 && lawB (tn (g 52 128)) a2) = true then b2i (isd (tn a1) (tn a2)) else -1)), g)
  | _ => (none, g))
def ev_X5_said : Nat → Mf := fun j => (match Nat.beq j 100 with | true => f_X5_isSaid | false => (match Nat.beq j 90 with | true => f_X5_isLaw | false => (fun _ _ => false, fun _ g => (none, g))))
def K_X5_said : List (Nat × Nat) := []
set_option maxRecDepth 100000 in
theorem blk_X5_said_0 (E : Ex) (g : Sg) (a1 a2 : Int32) : seg (T_X5_said E ev_X5_said) K_X5_said 2000 0 [some (.inr (some 51)), some (.inl a1), some (.inl a2)] [] g = (if (inB (g 52 128) 5) = true then (if (b2i (lawB (tn (g 52 128)) a1)) = 0 then some (.inl (some (.inl (-1)), g)) else (if (inB (g 52 128) 5) = true then (if (b2i (lawB (tn (g 52 128)) a2)) = 0 then some (.inl (some (.inl (-1)), g)) else (if (inB a1 625 && inB a2 625) = true then (if (b2i (isd (tn a1) (tn a2))) = 0 then some (.inl (some (.inl (nI 0)), g)) else some (.inl (some (.inl (nI 1)), g))) else none)) else none)) else none) := by rfl
def f_X5_sort : Mf := (fun as g => match as with
  | [.inr (some 51), .inl a1] => (gM g)
  | _ => false, fun as g => match as with
  | [.inr (some 51), .inl a1] => (some (.inl (if lawB (tn (g 52 128)) a1 = true then srtM (tn a1) else -1)), g)
  | _ => (none, g))
def ev_X5_sort : Nat → Mf := fun j => (match Nat.beq j 83 with | true => f_X5_digit | false => (match Nat.beq j 90 with | true => f_X5_isLaw | false => (fun _ _ => false, fun _ g => (none, g))))
def K_X5_sort : List (Nat × Nat) := [(20, 6)]
set_option maxRecDepth 100000 in
theorem blk_X5_sort_0 (E : Ex) (g : Sg) (a1 : Int32) : seg (T_X5_sort E ev_X5_sort) K_X5_sort 2000 0 [some (.inr (some 51)), some (.inl a1)] [] g = (if (inB (g 52 128) 5) = true then (if (b2i (lawB (tn (g 52 128)) a1)) = 0 then some (.inl (some (.inl (-1)), g)) else some (.inr (20, [some (.inr (some 51)), some (.inl a1), some (.inl (nI 0)), some (.inl (nI 0)), some (.inl (nI 0)), some (.inl (nI 0))], [], g))) else none) := by rfl
set_option maxRecDepth 100000 in
theorem blk_X5_sort_20 (E : Ex) (g : Sg) (x1 x2 x3 x4 x5 : Int32) : seg (T_X5_sort E ev_X5_sort) K_X5_sort 2000 20 [some (.inr (some 51)), some (.inl x1), some (.inl x2), some (.inl x3), some (.inl x4), some (.inl x5)] [] g = (if (nI 4) ≤ x5 then (if x3 = 0 then (if x4 = 0 then some (.inl (some (.inl (nI 0)), g)) else (if x3 = (nI 1) then (if x4 = 0 then some (.inl (some (.inl (nI 1)), g)) else (if x4 ≤ (nI 1) then some (.inl (some (.inl (nI 3)), g)) else some (.inl (some (.inl (nI 2)), g)))) else (if x4 ≤ (nI 1) then some (.inl (some (.inl (nI 3)), g)) else some (.inl (some (.inl (nI 2)), g))))) else (if x3 = (nI 1) then (if x4 = 0 then some (.inl (some (.inl (nI 1)), g)) else (if x4 ≤ (nI 1) then some (.inl (some (.inl (nI 3)), g)) else some (.inl (some (.inl (nI 2)), g)))) else (if x4 ≤ (nI 1) then some (.inl (some (.inl (nI 3)), g)) else some (.inl (some (.inl (nI 2)), g))))) else (if (inB x1 625 && inB x5 4) = true then (if (nI (D (tn x1) (tn x5))) = (nI 1) then (if (nI (D (tn x1) (tn x5))) = (nI 2) then (if (nI (D (tn x1) (tn x5))) ≤ (nI 2) then some (.inr (20, [some (.inr (some 51)), some (.inl x1), some (.inl (x2 + (nI 1))), some (.inl (x3 + (nI 1))), some (.inl (x4 + (nI 0))), some (.inl (x5 + nI 1))], [], g)) else some (.inr (20, [some (.inr (some 51)), some (.inl x1), some (.inl (x2 + (nI 1))), some (.inl (x3 + (nI 1))), some (.inl (x4 + (nI 1))), some (.inl (x5 + nI 1))], [], g))) else (if (nI (D (tn x1) (tn x5))) ≤ (nI 2) then some (.inr (20, [some (.inr (some 51)), some (.inl x1), some (.inl (x2 + (nI 1))), some (.inl (x3 + (nI 0))), some (.inl (x4 + (nI 0))), some (.inl (x5 + nI 1))], [], g)) else some (.inr (20, [some (.inr (some 51)), some (.inl x1), some (.inl (x2 + (nI 1))), some (.inl (x3 + (nI 0))), some (.inl (x4 + (nI 1))), some (.inl (x5 + nI 1))], [], g)))) else (if (nI (D (tn x1) (tn x5))) = (nI 2) then (if (nI (D (tn x1) (tn x5))) ≤ (nI 2) then some (.inr (20, [some (.inr (some 51)), some (.inl x1), some (.inl (x2 + (nI 0))), some (.inl (x3 + (nI 1))), some (.inl (x4 + (nI 0))), some (.inl (x5 + nI 1))], [], g)) else some (.inr (20, [some (.inr (some 51)), some (.inl x1), some (.inl (x2 + (nI 0))), some (.inl (x3 + (nI 1))), some (.inl (x4 + (nI 1))), some (.inl (x5 + nI 1))], [], g))) else (if (nI (D (tn x1) (tn x5))) ≤ (nI 2) then some (.inr (20, [some (.inr (some 51)), some (.inl x1), some (.inl (x2 + (nI 0))), some (.inl (x3 + (nI 0))), some (.inl (x4 + (nI 0))), some (.inl (x5 + nI 1))], [], g)) else some (.inr (20, [some (.inr (some 51)), some (.inl x1), some (.inl (x2 + (nI 0))), some (.inl (x3 + (nI 0))), some (.inl (x4 + (nI 1))), some (.inl (x5 + nI 1))], [], g))))) else none)) := by rfl
def f_X5_tell : Mf := (fun as g => match as with
  | [.inr (some 51), .inl a1, .inl a2] => (gK g && gM g)
  | _ => false, fun as g => match as with
  | [.inr (some 51), .inl a1, .inl a2] => (some (.inl (b2i (tlB (tn (g 52 128)) a1 a2))), (if tlB (tn (g 52 128)) a1 a2 = true then tlM g a1 a2 else g))
  | _ => (none, g))
def ev_X5_tell : Nat → Mf := fun j => (match Nat.beq j 70 with | true => f_X5_keep | false => (match Nat.beq j 90 with | true => f_X5_isLaw | false => (match Nat.beq j 64 with | true => f_X5_isIn | false => (fun _ _ => false, fun _ g => (none, g)))))
def K_X5_tell : List (Nat × Nat) := []
set_option maxRecDepth 100000 in
theorem blk_X5_tell_0 (E : Ex) (g : Sg) (a1 a2 : Int32) : seg (T_X5_tell E ev_X5_tell) K_X5_tell 2000 0 [some (.inr (some 51)), some (.inl a1), some (.inl a2)] [] g = (if (b2i (isI a1 (nI 0) (nI 3))) = 0 then some (.inl (some (.inl (nI 0)), g)) else (if a2 = 0 then (if (gK g) = true then (if inB ((nI 129) + a1) 133 = true then some (.inl (some (.inl (nI 1)), (us (keepM g) 52 (upd ((keepM g) 52) ((nI 129) + a1).toNatClampNeg a2)))) else none) else none) else (if (inB (g 52 128) 5) = true then (if (b2i (lawB (tn (g 52 128)) a2)) = 0 then some (.inl (some (.inl (nI 0)), g)) else (if (gK g) = true then (if inB ((nI 129) + a1) 133 = true then some (.inl (some (.inl (nI 1)), (us (keepM g) 52 (upd ((keepM g) 52) ((nI 129) + a1).toNatClampNeg a2)))) else none) else none)) else none))) := by rfl
def f_X5_told : Mf := (fun as g => match as with
  | [.inr (some 51), .inl a1] => true
  | _ => false, fun as g => match as with
  | [.inr (some 51), .inl a1] => (some (.inl (if inB a1 4 = true then g 52 (129 + tn a1) else -1)), g)
  | _ => (none, g))
def ev_X5_told : Nat → Mf := fun j => (match Nat.beq j 64 with | true => f_X5_isIn | false => (fun _ _ => false, fun _ g => (none, g)))
def K_X5_told : List (Nat × Nat) := []
set_option maxRecDepth 100000 in
theorem blk_X5_told_0 (E : Ex) (g : Sg) (a1 : Int32) : seg (T_X5_told E ev_X5_told) K_X5_told 2000 0 [some (.inr (some 51)), some (.inl a1)] [] g = (if (b2i (isI a1 (nI 0) (nI 3))) = 0 then some (.inl (some (.inl (-1)), g)) else (if inB ((nI 129) + a1) 133 = true then some (.inl (some (.inl (g 52 ((nI 129) + a1).toNatClampNeg)), g)) else none)) := by rfl
