/-! WHAT THE STRETCHES DO -/
def f_X4_breaker : Mf := (fun as g => match as with
  | [.inr (some 0), .inl a1, .inl a2, .inl a3] => (gC g)
  | _ => false, fun as g => match as with
  | [.inr (some 0), .inl a1, .inl a2, .inl a3] => (some (.inl (if bkB (tn (g 1 0)) a1 a2 a3 = true then pickV a3 (fou (fun s t => pbC g s t (tn a1)) 16 0 (tn a2)) else -1)), g)
  | _ => (none, g))
def ev_X4_breaker : Nat → Mf := fun j => (match Nat.beq j 20 with | true => f_X2_pairBreaks | false => (match Nat.beq j 55 with | true => f_X4_isLaw | false => (fun _ _ => false, fun _ g => (none, g))))
def K_X4_breaker : List (Nat × Nat) := [(29, 6), (42, 7)]
set_option maxRecDepth 100000 in
theorem blk_X4_breaker_0 (E : Ex) (g : Sg) (a1 a2 a3 : Int32) : seg (T_X4_breaker E ev_X4_breaker) K_X4_breaker 2000 0 [some (.inr (some 0)), some (.inl a1), some (.inl a2), some (.inl a3)] [] g = (if (inB (g 1 0) 5) = true then (if (b2i (lawB (tn (g 1 0)) a1)) = 0 then some (.inl (some (.inl (-1)), g)) else (if a2 < 0 then some (.inl (some (.inl (-1)), g)) else (if a3 < 0 then some (.inl (some (.inl (-1)), g)) else (if a3 ≤ (nI 1) then some (.inr (29, [some (.inr (some 0)), some (.inl a1), some (.inl a2), some (.inl a3), some (.inl a2), some (.inl (nI 0))], [], g)) else some (.inl (some (.inl (-1)), g)))))) else none) := by rfl
set_option maxRecDepth 100000 in
theorem blk_X4_breaker_29 (E : Ex) (g : Sg) (x1 x2 x3 x4 x5 : Int32) : seg (T_X4_breaker E ev_X4_breaker) K_X4_breaker 2000 29 [some (.inr (some 0)), some (.inl x1), some (.inl x2), some (.inl x3), some (.inl x4), some (.inl x5)] [] g = (if (nI 16) ≤ x5 then some (.inl (some (.inl (-1)), g)) else some (.inr (42, [some (.inr (some 0)), some (.inl x1), some (.inl x2), some (.inl x3), some (.inl x4), some (.inl x5), some (.inl (x5 + (nI 1)))], [], g))) := by rfl
set_option maxRecDepth 100000 in
theorem blk_X4_breaker_42 (E : Ex) (g : Sg) (x1 x2 x3 x4 x5 x6 : Int32) : seg (T_X4_breaker E ev_X4_breaker) K_X4_breaker 2000 42 [some (.inr (some 0)), some (.inl x1), some (.inl x2), some (.inl x3), some (.inl x4), some (.inl x5), some (.inl x6)] [] g = (if (nI 16) ≤ x6 then some (.inr (29, [some (.inr (some 0)), some (.inl x1), some (.inl x2), some (.inl x3), some (.inl x4), some (.inl (x5 + nI 1))], [], g)) else (if (inB x5 16 && inB x6 16 && inB (g 1 0) 5 && inB x1 625) = true then (if (b2i (pbC g (tn x5) (tn x6) (tn x1))) = 0 then some (.inr (42, [some (.inr (some 0)), some (.inl x1), some (.inl x2), some (.inl x3), some (.inl x4), some (.inl x5), some (.inl (x6 + nI 1))], [], g)) else (if x4 = 0 then (if x3 = 0 then some (.inl (some (.inl x5), g)) else some (.inl (some (.inl x6), g))) else some (.inr (42, [some (.inr (some 0)), some (.inl x1), some (.inl x2), some (.inl x3), some (.inl (x4 + (-1))), some (.inl x5), some (.inl (x6 + nI 1))], [], g)))) else none)) := by rfl
def f_X4_laws : Mf := (fun as g => match as with
  | [.inr (some 0), .inl a1, .inl a2] => (gC g)
  | _ => false, fun as g => match as with
  | [.inr (some 0), .inl a1, .inl a2] => (some (.inl (if csB a1 a2 = true then nI (sm (fun i => ct1 (fnd (cntC g 47) (1 + i) a1 a2)) (5 ^ tn (g 1 0) - 1)) else -1)), (if csB a1 a2 = true then cntC g else g))
  | _ => (none, g))
def ev_X4_laws : Nat → Mf := fun j => (match Nat.beq j 25 with | true => f_X3_isFound | false => (match Nat.beq j 54 with | true => f_X4_count | false => (match Nat.beq j 58 with | true => f_X4_canSeek | false => (fun _ _ => false, fun _ g => (none, g)))))
def K_X4_laws : List (Nat × Nat) := [(19, 5)]
set_option maxRecDepth 100000 in
theorem blk_X4_laws_0 (E : Ex) (g : Sg) (a1 a2 : Int32) : seg (T_X4_laws E ev_X4_laws) K_X4_laws 2000 0 [some (.inr (some 0)), some (.inl a1), some (.inl a2)] [] g = (if (b2i (isI a1 0 120 && isI a2 1 4)) = 0 then some (.inl (some (.inl (-1)), g)) else (if (gC g) = true then some (.inr (19, [some (.inr (some 0)), some (.inl a1), some (.inl a2), some (.inl (nI 0)), some (.inl (nI 1))], [], (cntC g))) else none)) := by rfl
set_option maxRecDepth 100000 in
theorem blk_X4_laws_19 (E : Ex) (g : Sg) (x1 x2 x3 x4 : Int32) : seg (T_X4_laws E ev_X4_laws) K_X4_laws 2000 19 [some (.inr (some 0)), some (.inl x1), some (.inl x2), some (.inl x3), some (.inl x4)] [] g = (if inB (g 1 0) 5 = true then (if (fiv (g 1 0).toNatClampNeg) ≤ x4 then some (.inl (some (.inl x3), g)) else (if (inB x4 625) = true then (if (b2i (fnd (g 47) (tn x4) x1 x2)) = 0 then some (.inr (19, [some (.inr (some 0)), some (.inl x1), some (.inl x2), some (.inl x3), some (.inl (x4 + nI 1))], [], g)) else some (.inr (19, [some (.inr (some 0)), some (.inl x1), some (.inl x2), some (.inl (x3 + nI 1)), some (.inl (x4 + nI 1))], [], g))) else none)) else none) := by rfl
def f_X4_law : Mf := (fun as g => match as with
  | [.inr (some 0), .inl a1, .inl a2, .inl a3] => (gC g)
  | _ => false, fun as g => match as with
  | [.inr (some 0), .inl a1, .inl a2, .inl a3] => (some (.inl (if (csB a1 a2 && decide (0 ≤ a3)) = true then finV (fin (fun n => fnd (cntC g 47) n a1 a2) (5 ^ tn (g 1 0) - 1) 1 (tn a3)) else -1)), (if (csB a1 a2 && decide (0 ≤ a3)) = true then cntC g else g))
  | _ => (none, g))
def ev_X4_law : Nat → Mf := fun j => (match Nat.beq j 25 with | true => f_X3_isFound | false => (match Nat.beq j 54 with | true => f_X4_count | false => (match Nat.beq j 58 with | true => f_X4_canSeek | false => (fun _ _ => false, fun _ g => (none, g)))))
def K_X4_law : List (Nat × Nat) := [(24, 6)]
set_option maxRecDepth 100000 in
theorem blk_X4_law_0 (E : Ex) (g : Sg) (a1 a2 a3 : Int32) : seg (T_X4_law E ev_X4_law) K_X4_law 2000 0 [some (.inr (some 0)), some (.inl a1), some (.inl a2), some (.inl a3)] [] g = (if (b2i (isI a1 0 120 && isI a2 1 4)) = 0 then some (.inl (some (.inl (-1)), g)) else (if 0 ≤ a3 then (if (gC g) = true then some (.inr (24, [some (.inr (some 0)), some (.inl a1), some (.inl a2), some (.inl a3), some (.inl a3), some (.inl (nI 1))], [], (cntC g))) else none) else some (.inl (some (.inl (-1)), g)))) := by rfl
set_option maxRecDepth 100000 in
theorem blk_X4_law_24 (E : Ex) (g : Sg) (x1 x2 x3 x4 x5 : Int32) : seg (T_X4_law E ev_X4_law) K_X4_law 2000 24 [some (.inr (some 0)), some (.inl x1), some (.inl x2), some (.inl x3), some (.inl x4), some (.inl x5)] [] g = (if inB (g 1 0) 5 = true then (if (fiv (g 1 0).toNatClampNeg) ≤ x5 then some (.inl (some (.inl (-1)), g)) else (if (inB x5 625) = true then (if (b2i (fnd (g 47) (tn x5) x1 x2)) = 0 then some (.inr (24, [some (.inr (some 0)), some (.inl x1), some (.inl x2), some (.inl x3), some (.inl x4), some (.inl (x5 + nI 1))], [], g)) else (if x4 = 0 then some (.inl (some (.inl x5), g)) else some (.inr (24, [some (.inr (some 0)), some (.inl x1), some (.inl x2), some (.inl x3), some (.inl (x4 + (-1))), some (.inl (x5 + nI 1))], [], g)))) else none)) else none) := by rfl
def f_X4_settles : Mf := (fun as g => match as with
  | [.inr (some 0), .inl a1] => (gC g)
  | _ => false, fun as g => match as with
  | [.inr (some 0), .inl a1] => (some (.inl (if inB a1 (2 ^ tn (g 1 0)) = true then nI (sett (cntC g 47) (tn a1) (tn (g 1 0))) else -1)), (if inB a1 (2 ^ tn (g 1 0)) = true then cntC g else g))
  | _ => (none, g))
def ev_X4_settles : Nat → Mf := fun j => (match Nat.beq j 63 with | true => f_X4_alikeLaw | false => (match Nat.beq j 54 with | true => f_X4_count | false => (fun _ _ => false, fun _ g => (none, g))))
def K_X4_settles : List (Nat × Nat) := [(27, 4)]
set_option maxRecDepth 100000 in
theorem blk_X4_settles_0 (E : Ex) (g : Sg) (a1 : Int32) : seg (T_X4_settles E ev_X4_settles) K_X4_settles 2000 0 [some (.inr (some 0)), some (.inl a1)] [] g = (if a1 < 0 then some (.inl (some (.inl (-1)), g)) else (if a1 < ((nI 1) <<< ((g 1 0) &&& nI 31)) then (if (gC g) = true then some (.inr (27, [some (.inr (some 0)), some (.inl a1), some (.inl a1), some (.inl (nI 0))], [], (cntC g))) else none) else some (.inl (some (.inl (-1)), g)))) := by rfl
set_option maxRecDepth 100000 in
theorem blk_X4_settles_27 (E : Ex) (g : Sg) (x1 x2 x3 : Int32) : seg (T_X4_settles E ev_X4_settles) K_X4_settles 2000 27 [some (.inr (some 0)), some (.inl x1), some (.inl x2), some (.inl x3)] [] g = (if (g 1 0) ≤ x3 then some (.inl (some (.inl x2), g)) else (if ((x1 >>> (x3 &&& nI 31)) &&& (nI 1)) = 0 then (if (inB x1 16) = true then (if inB x3 5 = true then (if inB ((nI (alk (tn x1))) + ((nI 2) * (fiv x3.toNatClampNeg))) 625 = true then (if (g 47 ((nI (alk (tn x1))) + ((nI 2) * (fiv x3.toNatClampNeg))).toNatClampNeg) = 0 then some (.inr (27, [some (.inr (some 0)), some (.inl x1), some (.inl (x2 ||| ((nI 1) <<< (x3 &&& nI 31)))), some (.inl (x3 + nI 1))], [], g)) else some (.inr (27, [some (.inr (some 0)), some (.inl x1), some (.inl x2), some (.inl (x3 + nI 1))], [], g))) else none) else none) else none) else some (.inr (27, [some (.inr (some 0)), some (.inl x1), some (.inl x2), some (.inl (x3 + nI 1))], [], g)))) := by rfl
def f_X4_keys : Mf := (fun as g => match as with
  | [.inr (some 0)] => (gC g)
  | _ => false, fun as g => match as with
  | [.inr (some 0)] => (some (.inl (nI (sm (fun n => ct1 (lky (cntC g 47) n)) (2 ^ tn (g 1 0))))), (cntC g))
  | _ => (none, g))
def ev_X4_keys : Nat → Mf := fun j => (match Nat.beq j 27 with | true => f_X3_isLeastKey | false => (match Nat.beq j 54 with | true => f_X4_count | false => (fun _ _ => false, fun _ g => (none, g))))
def K_X4_keys : List (Nat × Nat) := [(8, 3)]
set_option maxRecDepth 100000 in
theorem blk_X4_keys_0 (E : Ex) (g : Sg) : seg (T_X4_keys E ev_X4_keys) K_X4_keys 2000 0 [some (.inr (some 0))] [] g = (if (gC g) = true then some (.inr (8, [some (.inr (some 0)), some (.inl (nI 0)), some (.inl (nI 0))], [], (cntC g))) else none) := by rfl
set_option maxRecDepth 100000 in
theorem blk_X4_keys_8 (E : Ex) (g : Sg) (x1 x2 : Int32) : seg (T_X4_keys E ev_X4_keys) K_X4_keys 2000 8 [some (.inr (some 0)), some (.inl x1), some (.inl x2)] [] g = (if ((nI 1) <<< ((g 1 0) &&& nI 31)) ≤ x2 then some (.inl (some (.inl x1), g)) else (if (inB x2 16) = true then (if (b2i (lky (g 47) (tn x2))) = 0 then some (.inr (8, [some (.inr (some 0)), some (.inl x1), some (.inl (x2 + nI 1))], [], g)) else some (.inr (8, [some (.inr (some 0)), some (.inl (x1 + nI 1)), some (.inl (x2 + nI 1))], [], g))) else none)) := by rfl
def f_X4_key : Mf := (fun as g => match as with
  | [.inr (some 0), .inl a1] => (gC g)
  | _ => false, fun as g => match as with
  | [.inr (some 0), .inl a1] => (some (.inl (if 0 ≤ a1 then finV (fin (lky (cntC g 47)) (2 ^ tn (g 1 0)) 0 (tn a1)) else -1)), (if 0 ≤ a1 then cntC g else g))
  | _ => (none, g))
def ev_X4_key : Nat → Mf := fun j => (match Nat.beq j 27 with | true => f_X3_isLeastKey | false => (match Nat.beq j 54 with | true => f_X4_count | false => (fun _ _ => false, fun _ g => (none, g))))
def K_X4_key : List (Nat × Nat) := [(14, 4)]
set_option maxRecDepth 100000 in
theorem blk_X4_key_0 (E : Ex) (g : Sg) (a1 : Int32) : seg (T_X4_key E ev_X4_key) K_X4_key 2000 0 [some (.inr (some 0)), some (.inl a1)] [] g = (if 0 ≤ a1 then (if (gC g) = true then some (.inr (14, [some (.inr (some 0)), some (.inl a1), some (.inl a1), some (.inl (nI 0))], [], (cntC g))) else none) else some (.inl (some (.inl (-1)), g))) := by rfl
set_option maxRecDepth 100000 in
theorem blk_X4_key_14 (E : Ex) (g : Sg) (x1 x2 x3 : Int32) : seg (T_X4_key E ev_X4_key) K_X4_key 2000 14 [some (.inr (some 0)), some (.inl x1), some (.inl x2), some (.inl x3)] [] g = (if ((nI 1) <<< ((g 1 0) &&& nI 31)) ≤ x3 then some (.inl (some (.inl (-1)), g)) else (if (inB x3 16) = true then (if (b2i (lky (g 47) (tn x3))) = 0 then some (.inr (14, [some (.inr (some 0)), some (.inl x1), some (.inl x2), some (.inl (x3 + nI 1))], [], g)) else (if x2 = 0 then some (.inl (some (.inl x3), g)) else some (.inr (14, [some (.inr (some 0)), some (.inl x1), some (.inl (x2 + (-1))), some (.inl (x3 + nI 1))], [], g)))) else none)) := by rfl
