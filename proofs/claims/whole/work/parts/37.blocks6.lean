/-! WHAT THE STRETCHES DO -/
def f_J6_bitCount_0f7a4 : Mf := (fun as g => match as with
  | [.inl a0] => (inB a0 65536)
  | _ => false, fun as g => match as with
  | [.inl a0] => (some (.inl (nI (popc (tn a0)))), g)
  | _ => (none, g))
def ev_J6_bitCount_0f7a4 : Nat → Mf := fun j => (fun _ _ => false, fun _ g => (none, g))
def K_J6_bitCount_0f7a4 : List (Nat × Nat) := []
set_option maxRecDepth 100000 in
theorem blk_J6_bitCount_0f7a4_0 (E : Ex) (g : Sg) (a0 : Int32) : seg (T_J6_bitCount_0f7a4 E ev_J6_bitCount_0f7a4) K_J6_bitCount_0f7a4 2000 0 [some (.inl a0)] [] g = some (.inl (some (.inl ((((((((a0 - ((a0.toUInt32 >>> ((nI 1).toUInt32 &&& Int32.toUInt32 31)).toInt32 &&& (nI 1431655765))) &&& (nI 858993459)) + (((a0 - ((a0.toUInt32 >>> ((nI 1).toUInt32 &&& Int32.toUInt32 31)).toInt32 &&& (nI 1431655765))).toUInt32 >>> ((nI 2).toUInt32 &&& Int32.toUInt32 31)).toInt32 &&& (nI 858993459))) + ((((a0 - ((a0.toUInt32 >>> ((nI 1).toUInt32 &&& Int32.toUInt32 31)).toInt32 &&& (nI 1431655765))) &&& (nI 858993459)) + (((a0 - ((a0.toUInt32 >>> ((nI 1).toUInt32 &&& Int32.toUInt32 31)).toInt32 &&& (nI 1431655765))).toUInt32 >>> ((nI 2).toUInt32 &&& Int32.toUInt32 31)).toInt32 &&& (nI 858993459))).toUInt32 >>> ((nI 4).toUInt32 &&& Int32.toUInt32 31)).toInt32) &&& (nI 252645135)) + ((((((a0 - ((a0.toUInt32 >>> ((nI 1).toUInt32 &&& Int32.toUInt32 31)).toInt32 &&& (nI 1431655765))) &&& (nI 858993459)) + (((a0 - ((a0.toUInt32 >>> ((nI 1).toUInt32 &&& Int32.toUInt32 31)).toInt32 &&& (nI 1431655765))).toUInt32 >>> ((nI 2).toUInt32 &&& Int32.toUInt32 31)).toInt32 &&& (nI 858993459))) + ((((a0 - ((a0.toUInt32 >>> ((nI 1).toUInt32 &&& Int32.toUInt32 31)).toInt32 &&& (nI 1431655765))) &&& (nI 858993459)) + (((a0 - ((a0.toUInt32 >>> ((nI 1).toUInt32 &&& Int32.toUInt32 31)).toInt32 &&& (nI 1431655765))).toUInt32 >>> ((nI 2).toUInt32 &&& Int32.toUInt32 31)).toInt32 &&& (nI 858993459))).toUInt32 >>> ((nI 4).toUInt32 &&& Int32.toUInt32 31)).toInt32) &&& (nI 252645135)).toUInt32 >>> ((nI 8).toUInt32 &&& Int32.toUInt32 31)).toInt32) + (((((((a0 - ((a0.toUInt32 >>> ((nI 1).toUInt32 &&& Int32.toUInt32 31)).toInt32 &&& (nI 1431655765))) &&& (nI 858993459)) + (((a0 - ((a0.toUInt32 >>> ((nI 1).toUInt32 &&& Int32.toUInt32 31)).toInt32 &&& (nI 1431655765))).toUInt32 >>> ((nI 2).toUInt32 &&& Int32.toUInt32 31)).toInt32 &&& (nI 858993459))) + ((((a0 - ((a0.toUInt32 >>> ((nI 1).toUInt32 &&& Int32.toUInt32 31)).toInt32 &&& (nI 1431655765))) &&& (nI 858993459)) + (((a0 - ((a0.toUInt32 >>> ((nI 1).toUInt32 &&& Int32.toUInt32 31)).toInt32 &&& (nI 1431655765))).toUInt32 >>> ((nI 2).toUInt32 &&& Int32.toUInt32 31)).toInt32 &&& (nI 858993459))).toUInt32 >>> ((nI 4).toUInt32 &&& Int32.toUInt32 31)).toInt32) &&& (nI 252645135)) + ((((((a0 - ((a0.toUInt32 >>> ((nI 1).toUInt32 &&& Int32.toUInt32 31)).toInt32 &&& (nI 1431655765))) &&& (nI 858993459)) + (((a0 - ((a0.toUInt32 >>> ((nI 1).toUInt32 &&& Int32.toUInt32 31)).toInt32 &&& (nI 1431655765))).toUInt32 >>> ((nI 2).toUInt32 &&& Int32.toUInt32 31)).toInt32 &&& (nI 858993459))) + ((((a0 - ((a0.toUInt32 >>> ((nI 1).toUInt32 &&& Int32.toUInt32 31)).toInt32 &&& (nI 1431655765))) &&& (nI 858993459)) + (((a0 - ((a0.toUInt32 >>> ((nI 1).toUInt32 &&& Int32.toUInt32 31)).toInt32 &&& (nI 1431655765))).toUInt32 >>> ((nI 2).toUInt32 &&& Int32.toUInt32 31)).toInt32 &&& (nI 858993459))).toUInt32 >>> ((nI 4).toUInt32 &&& Int32.toUInt32 31)).toInt32) &&& (nI 252645135)).toUInt32 >>> ((nI 8).toUInt32 &&& Int32.toUInt32 31)).toInt32).toUInt32 >>> ((nI 16).toUInt32 &&& Int32.toUInt32 31)).toInt32) &&& (nI 63))), g)) := by rfl
def f_X1_weightOf : Mf := (fun as g => match as with
  | [.inr (some 50), .inl a1] => (inB a1 65536)
  | _ => false, fun as g => match as with
  | [.inr (some 50), .inl a1] => (some (.inl (wsI (g 50) (tn a1) 16)), g)
  | _ => (none, g))
def ev_X1_weightOf : Nat → Mf := fun j => (fun _ _ => false, fun _ g => (none, g))
def K_X1_weightOf : List (Nat × Nat) := [(4, 4)]
set_option maxRecDepth 100000 in
theorem blk_X1_weightOf_0 (E : Ex) (g : Sg) (a1 : Int32) : seg (T_X1_weightOf E ev_X1_weightOf) K_X1_weightOf 2000 0 [some (.inr (some 50)), some (.inl a1)] [] g = some (.inr (4, [some (.inr (some 50)), some (.inl a1), some (.inl (nI 0)), some (.inl (nI 0))], [], g)) := by rfl
set_option maxRecDepth 100000 in
theorem blk_X1_weightOf_4 (E : Ex) (g : Sg) (x1 x2 x3 : Int32) : seg (T_X1_weightOf E ev_X1_weightOf) K_X1_weightOf 2000 4 [some (.inr (some 50)), some (.inl x1), some (.inl x2), some (.inl x3)] [] g = (if (nI 16) ≤ x3 then some (.inl (some (.inl x2), g)) else (if ((x1 >>> (x3 &&& nI 31)) &&& (nI 1)) = (nI 1) then (if inB x3 16 = true then some (.inr (4, [some (.inr (some 50)), some (.inl x1), some (.inl (x2 + (g 50 x3.toNatClampNeg))), some (.inl (x3 + nI 1))], [], g)) else none) else some (.inr (4, [some (.inr (some 50)), some (.inl x1), some (.inl x2), some (.inl (x3 + nI 1))], [], g)))) := by rfl
def f_X1_busiest : Mf := (fun as g => match as with
  | [.inr (some 49), .inl a1] => (inB a1 65536 && foesOK g)
  | _ => false, fun as g => match as with
  | [.inr (some 49), .inl a1] => (some (.inl (bsP (g 49) (tn a1) 16).1), g)
  | _ => (none, g))
def ev_X1_busiest : Nat → Mf := fun j => (match Nat.beq j 118 with | true => f_J6_bitCount_0f7a4 | false => (fun _ _ => false, fun _ g => (none, g)))
def K_X1_busiest : List (Nat × Nat) := [(7, 5)]
set_option maxRecDepth 100000 in
theorem blk_X1_busiest_0 (E : Ex) (g : Sg) (a1 : Int32) : seg (T_X1_busiest E ev_X1_busiest) K_X1_busiest 2000 0 [some (.inr (some 49)), some (.inl a1)] [] g = some (.inr (7, [some (.inr (some 49)), some (.inl a1), some (.inl (-1)), some (.inl (nI 0)), some (.inl (nI 0))], [], g)) := by rfl
set_option maxRecDepth 100000 in
theorem blk_X1_busiest_7 (E : Ex) (g : Sg) (x1 x2 x3 x4 : Int32) : seg (T_X1_busiest E ev_X1_busiest) K_X1_busiest 2000 7 [some (.inr (some 49)), some (.inl x1), some (.inl x2), some (.inl x3), some (.inl x4)] [] g = (if (nI 16) ≤ x4 then some (.inl (some (.inl x2), g)) else (if ((x1 >>> (x4 &&& nI 31)) &&& (nI 1)) = (nI 1) then (if inB x4 16 = true then (if (inB ((g 49 x4.toNatClampNeg) &&& x1) 65536) = true then (if (nI (popc (tn ((g 49 x4.toNatClampNeg) &&& x1)))) ≤ x3 then some (.inr (7, [some (.inr (some 49)), some (.inl x1), some (.inl x2), some (.inl x3), some (.inl (x4 + nI 1))], [], g)) else some (.inr (7, [some (.inr (some 49)), some (.inl x1), some (.inl x4), some (.inl (nI (popc (tn ((g 49 x4.toNatClampNeg) &&& x1))))), some (.inl (x4 + nI 1))], [], g))) else none) else none) else (if (nI 0) ≤ x3 then some (.inr (7, [some (.inr (some 49)), some (.inl x1), some (.inl x2), some (.inl x3), some (.inl (x4 + nI 1))], [], g)) else some (.inr (7, [some (.inr (some 49)), some (.inl x1), some (.inl x4), some (.inl (nI 0)), some (.inl (x4 + nI 1))], [], g))))) := by rfl
def f_X1_cost : Mf := (fun as g => match as with
  | [.inr (some 48)] => true
  | _ => false, fun as g => match as with
  | [.inr (some 48)] => (some (.inl (g 48 3 / nI 65536)), g)
  | _ => (none, g))
def ev_X1_cost : Nat → Mf := fun j => (fun _ _ => false, fun _ g => (none, g))
def K_X1_cost : List (Nat × Nat) := []
set_option maxRecDepth 100000 in
theorem blk_X1_cost_0 (E : Ex) (g : Sg) : seg (T_X1_cost E ev_X1_cost) K_X1_cost 2000 0 [some (.inr (some 48))] [] g = some (.inl (some (.inl ((g 48 3) / (nI 65536))), g)) := by rfl
def f_X1_slots : Mf := (fun as g => match as with
  | [.inr (some 48)] => true
  | _ => false, fun as g => match as with
  | [.inr (some 48)] => (some (.inl (g 48 3 - g 48 3 / nI 65536 * nI 65536)), g)
  | _ => (none, g))
def ev_X1_slots : Nat → Mf := fun j => (fun _ _ => false, fun _ g => (none, g))
def K_X1_slots : List (Nat × Nat) := []
set_option maxRecDepth 100000 in
theorem blk_X1_slots_0 (E : Ex) (g : Sg) : seg (T_X1_slots E ev_X1_slots) K_X1_slots 2000 0 [some (.inr (some 48))] [] g = some (.inl (some (.inl ((g 48 3) - (g 48 3) / (nI 65536) * (nI 65536))), g)) := by rfl
def f_X1_breaksOne : Mf := (fun as g => match as with
  | [.inr (some 1), .inl a1, .inl a2] => (inB a1 16 && inB a2 16 && gC g && toldOK g)
  | _ => false, fun as g => match as with
  | [.inr (some 1), .inl a1, .inl a2] => (some (.inl (b2i (b1C g (tn a1) (tn a2)))), g)
  | _ => (none, g))
def ev_X1_breaksOne : Nat → Mf := fun j => (match Nat.beq j 20 with | true => f_X2_pairBreaks | false => (fun _ _ => false, fun _ g => (none, g)))
def K_X1_breaksOne : List (Nat × Nat) := [(2, 4)]
set_option maxRecDepth 100000 in
theorem blk_X1_breaksOne_0 (E : Ex) (g : Sg) (a1 a2 : Int32) : seg (T_X1_breaksOne E ev_X1_breaksOne) K_X1_breaksOne 2000 0 [some (.inr (some 1)), some (.inl a1), some (.inl a2)] [] g = some (.inr (2, [some (.inr (some 1)), some (.inl a1), some (.inl a2), some (.inl (nI 0))], [], g)) := by rfl
set_option maxRecDepth 100000 in
theorem blk_X1_breaksOne_2 (E : Ex) (g : Sg) (x1 x2 x3 : Int32) : seg (T_X1_breaksOne E ev_X1_breaksOne) K_X1_breaksOne 2000 2 [some (.inr (some 1)), some (.inl x1), some (.inl x2), some (.inl x3)] [] g = (if (nI 4) ≤ x3 then some (.inl (some (.inl (nI 0)), g)) else (if inB x3 4 = true then (if (g 6 x3.toNatClampNeg) = 0 then some (.inr (2, [some (.inr (some 1)), some (.inl x1), some (.inl x2), some (.inl (x3 + nI 1))], [], g)) else (if inB x3 4 = true then (if (inB x1 16 && inB x2 16 && inB (g 1 0) 5 && inB (g 6 x3.toNatClampNeg) 625) = true then (if (b2i (pbC g (tn x1) (tn x2) (tn (g 6 x3.toNatClampNeg)))) = 0 then some (.inr (2, [some (.inr (some 1)), some (.inl x1), some (.inl x2), some (.inl (x3 + nI 1))], [], g)) else some (.inl (some (.inl (nI 1)), g))) else none) else none)) else none)) := by rfl
def f_X1_lightestCover : Mf := (fun as g => match as with
  | [.inr (some 49), .inr (some 50), .inl a2, .inl a3] => (inB a2 65536 && foesOK g && inB a3 18)
  | _ => false, fun as g => match as with
  | [.inr (some 49), .inr (some 50), .inl a2, .inl a3] => (some (.inl (lcI (g 49) (g 50) (17 - tn a3) (tn a2))), g)
  | _ => (none, g))
def ev_X1_lightestCover : Nat → Mf := fun j => (match Nat.beq j 118 with | true => f_J6_bitCount_0f7a4 | false => (match Nat.beq j 6 with | true => f_X1_lightestCover | false => (match Nat.beq j 8 with | true => f_X1_weightOf | false => (match Nat.beq j 7 with | true => f_X1_busiest | false => (fun _ _ => false, fun _ g => (none, g))))))
def K_X1_lightestCover : List (Nat × Nat) := []
set_option maxRecDepth 100000 in
theorem blk_X1_lightestCover_0 (E : Ex) (g : Sg) (a2 a3 : Int32) : seg (T_X1_lightestCover E ev_X1_lightestCover) K_X1_lightestCover 2000 0 [some (.inr (some 49)), some (.inr (some 50)), some (.inl a2), some (.inl a3)] [] g = (if (inB a2 65536 && foesOK g) = true then (if (bsP (g 49) (tn a2) 16).1 = (-1) then some (.inl (some (.inl (nI 0)), g)) else (if a3 ≤ (nI 16) then (if inB (bsP (g 49) (tn a2) 16).1 16 = true then (if (inB ((g 49 (bsP (g 49) (tn a2) 16).1.toNatClampNeg) &&& a2) 65536) = true then (if (inB ((a2 &&& (((nI 1) <<< ((bsP (g 49) (tn a2) 16).1 &&& nI 31)) ^^^ (-1))) &&& (((g 49 (bsP (g 49) (tn a2) 16).1.toNatClampNeg) &&& a2) ^^^ (-1))) 65536 && foesOK g && inB (a3 + (nI 1)) 18) = true then (if (inB ((g 49 (bsP (g 49) (tn a2) 16).1.toNatClampNeg) &&& a2) 65536) = true then (if (nI (popc (tn ((g 49 (bsP (g 49) (tn a2) 16).1.toNatClampNeg) &&& a2)))) = (nI 1) then (if inB (bsP (g 49) (tn a2) 16).1 16 = true then some (.inl (some (.inl ((minI (wsI (g 50) (tn ((g 49 (bsP (g 49) (tn a2) 16).1.toNatClampNeg) &&& a2)) 16) (g 50 (bsP (g 49) (tn a2) 16).1.toNatClampNeg)) + (lcI (g 49) (g 50) (17 - tn (a3 + (nI 1))) (tn ((a2 &&& (((nI 1) <<< ((bsP (g 49) (tn a2) 16).1 &&& nI 31)) ^^^ (-1))) &&& (((g 49 (bsP (g 49) (tn a2) 16).1.toNatClampNeg) &&& a2) ^^^ (-1))))))), g)) else none) else (if inB (bsP (g 49) (tn a2) 16).1 16 = true then (if (inB (a2 &&& (((nI 1) <<< ((bsP (g 49) (tn a2) 16).1 &&& nI 31)) ^^^ (-1))) 65536 && foesOK g && inB (a3 + (nI 1)) 18) = true then some (.inl (some (.inl (minI ((wsI (g 50) (tn ((g 49 (bsP (g 49) (tn a2) 16).1.toNatClampNeg) &&& a2)) 16) + (lcI (g 49) (g 50) (17 - tn (a3 + (nI 1))) (tn ((a2 &&& (((nI 1) <<< ((bsP (g 49) (tn a2) 16).1 &&& nI 31)) ^^^ (-1))) &&& (((g 49 (bsP (g 49) (tn a2) 16).1.toNatClampNeg) &&& a2) ^^^ (-1)))))) ((g 50 (bsP (g 49) (tn a2) 16).1.toNatClampNeg) + (lcI (g 49) (g 50) (17 - tn (a3 + (nI 1))) (tn (a2 &&& (((nI 1) <<< ((bsP (g 49) (tn a2) 16).1 &&& nI 31)) ^^^ (-1)))))))), g)) else none) else none)) else none) else none) else none) else none) else some (.inl (some (.inl (nI 0)), g)))) else none) := by rfl
def f_X1_seek : Mf := (fun as g => match as with
  | [.inr (some 48), .inr (some 1)] => (gC g && toldOK g)
  | _ => false, fun as g => match as with
  | [.inr (some 48), .inr (some 1)] => (none, (seekG g))
  | _ => (none, g))
def ev_X1_seek : Nat → Mf := fun j => (match Nat.beq j 6 with | true => f_X1_lightestCover | false => (match Nat.beq j 5 with | true => f_X1_breaksOne | false => (match Nat.beq j 11 with | true => f_X2_hasRow | false => (fun _ _ => false, fun _ g => (none, g)))))
def K_X1_seek : List (Nat × Nat) := [(7, 3), (59, 3), (69, 4)]
set_option maxRecDepth 100000 in
theorem blk_X1_seek_0 (E : Ex) (g : Sg) : seg (T_X1_seek E ev_X1_seek) K_X1_seek 2000 0 [some (.inr (some 48)), some (.inr (some 1))] [] g = some (.inr (7, [some (.inr (some 48)), some (.inr (some 1)), some (.inl (nI 0))], [], (us g 48 (upd (g 48) 2 (nI 0))))) := by rfl
set_option maxRecDepth 100000 in
theorem blk_X1_seek_7 (E : Ex) (g : Sg) (x2 : Int32) : seg (T_X1_seek E ev_X1_seek) K_X1_seek 2000 7 [some (.inr (some 48)), some (.inr (some 1)), some (.inl x2)] [] g = (if (nI 16) ≤ x2 then some (.inr (59, [some (.inr (some 48)), some (.inr (some 1)), some (.inl (nI 0))], [], g)) else (if inB x2 16 = true then (if (b2i (inB x2 16 && rwC (us g 49 (upd (g 49) x2.toNatClampNeg (nI 0))) (tn x2))) = 0 then (if inB x2 16 = true then some (.inr (7, [some (.inr (some 48)), some (.inr (some 1)), some (.inl (x2 + nI 1))], [], (us (us g 49 (upd (g 49) x2.toNatClampNeg (nI 0))) 50 (upd (g 50) x2.toNatClampNeg (nI 0))))) else none) else (if inB x2 16 = true then (if inB x2 16 = true then some (.inr (7, [some (.inr (some 48)), some (.inr (some 1)), some (.inl (x2 + nI 1))], [], (us (us g 49 (upd (g 49) x2.toNatClampNeg (nI 0))) 50 (upd (g 50) x2.toNatClampNeg (((g 4 x2.toNatClampNeg) * (nI 65536)) + ((nI 1) <<< (x2 &&& nI 31))))))) else none) else none)) else none)) := by rfl
set_option maxRecDepth 100000 in
theorem blk_X1_seek_59 (E : Ex) (g : Sg) (x2 : Int32) : seg (T_X1_seek E ev_X1_seek) K_X1_seek 2000 59 [some (.inr (some 48)), some (.inr (some 1)), some (.inl x2)] [] g = (if (nI 16) ≤ x2 then (if (inB (nI 65535) 65536 && foesOK g && inB (nI 0) 18) = true then some (.inl (none, (us g 48 (upd (g 48) 3 (lcI (g 49) (g 50) (17 - tn (nI 0)) (tn (nI 65535))))))) else none) else some (.inr (69, [some (.inr (some 48)), some (.inr (some 1)), some (.inl x2), some (.inl (x2 + (nI 1)))], [], g))) := by rfl
set_option maxRecDepth 100000 in
theorem blk_X1_seek_69 (E : Ex) (g : Sg) (x2 x3 : Int32) : seg (T_X1_seek E ev_X1_seek) K_X1_seek 2000 69 [some (.inr (some 48)), some (.inr (some 1)), some (.inl x2), some (.inl x3)] [] g = (if (nI 16) ≤ x3 then some (.inr (59, [some (.inr (some 48)), some (.inr (some 1)), some (.inl (x2 + nI 1))], [], g)) else (if (inB x2 16 && inB x3 16 && gC g && toldOK g) = true then (if (b2i (b1C g (tn x2) (tn x3))) = 0 then some (.inr (69, [some (.inr (some 48)), some (.inr (some 1)), some (.inl x2), some (.inl (x3 + nI 1))], [], g)) else (if inB x2 16 = true then (if inB x2 16 = true then (if inB x3 16 = true then (if inB x3 16 = true then some (.inr (69, [some (.inr (some 48)), some (.inr (some 1)), some (.inl x2), some (.inl (x3 + nI 1))], [], (us (us (us g 48 (upd (g 48) 2 ((g 48 2) + (nI 1)))) 49 (upd (g 49) x2.toNatClampNeg ((g 49 x2.toNatClampNeg) ||| ((nI 1) <<< (x3 &&& nI 31))))) 49 (upd (upd (g 49) x2.toNatClampNeg ((g 49 x2.toNatClampNeg) ||| ((nI 1) <<< (x3 &&& nI 31)))) x3.toNatClampNeg (((upd (g 49) x2.toNatClampNeg ((g 49 x2.toNatClampNeg) ||| ((nI 1) <<< (x3 &&& nI 31)))) x3.toNatClampNeg) ||| ((nI 1) <<< (x2 &&& nI 31))))))) else none) else none) else none) else none)) else none)) := by rfl
def f_X4_mend : Mf := (fun as g => match as with
  | [.inr (some 0), .inl a1] => (gC g && toldOK g)
  | _ => false, fun as g => match as with
  | [.inr (some 0), .inl a1] => (some (.inl (if isI a1 0 2 = true then mdV (mdC g) a1 else -1)), (if isI a1 0 2 = true then mdC g else g))
  | _ => (none, g))
def ev_X4_mend : Nat → Mf := fun j => (match Nat.beq j 4 with | true => f_X1_slots | false => (match Nat.beq j 3 with | true => f_X1_cost | false => (match Nat.beq j 2 with | true => f_X1_seek | false => (fun _ _ => false, fun _ g => (none, g)))))
def K_X4_mend : List (Nat × Nat) := []
set_option maxRecDepth 100000 in
theorem blk_X4_mend_0 (E : Ex) (g : Sg) (a1 : Int32) : seg (T_X4_mend E ev_X4_mend) K_X4_mend 2000 0 [some (.inr (some 0)), some (.inl a1)] [] g = (if a1 < 0 then some (.inl (some (.inl (-1)), g)) else (if a1 ≤ (nI 2) then (if (g 0 5) = 0 then (if (gC g && toldOK g) = true then (if a1 = nI 0 then some (.inl (some (.inl ((us (seekG g) 0 (upd ((seekG g) 0) 5 (nI 1))) 48 3 / nI 65536)), (us (seekG g) 0 (upd ((seekG g) 0) 5 (nI 1))))) else (if a1 = nI 1 then some (.inl (some (.inl ((us (seekG g) 0 (upd ((seekG g) 0) 5 (nI 1))) 48 3 - (us (seekG g) 0 (upd ((seekG g) 0) 5 (nI 1))) 48 3 / nI 65536 * nI 65536)), (us (seekG g) 0 (upd ((seekG g) 0) 5 (nI 1))))) else some (.inl (some (.inl ((seekG g) 48 2)), (us (seekG g) 0 (upd ((seekG g) 0) 5 (nI 1))))))) else none) else (if a1 = nI 0 then some (.inl (some (.inl (g 48 3 / nI 65536)), g)) else (if a1 = nI 1 then some (.inl (some (.inl (g 48 3 - g 48 3 / nI 65536 * nI 65536)), g)) else some (.inl (some (.inl (g 48 2)), g))))) else some (.inl (some (.inl (-1)), g)))) := by rfl
