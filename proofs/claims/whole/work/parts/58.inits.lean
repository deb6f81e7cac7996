/-! THE CONSTRUCTORS -/
def wSheet (C : CI3) (q : Nat → Nat) : va_W := [(q 0, .inr (2, [.int 4, .ref (q 1), .ref (q 2), .ref (q 3), .ref (q 4), .ref (q 5)])), (q 1, .inl (C.1, 16, .inl (filF fZ 16 (-1)))), (q 2, .inl (C.1, 16, .inl fZ)), (q 3, .inl (C.1, 16, .inl fZ)), (q 4, .inl (C.1, 64, .inl fZ)), (q 5, .inl (C.1, 4, .inl fZ))]
def wTal (C : CI3) (q : Nat → Nat) : va_W := [(q 0, .inr (3, [.ref (q 1), .ref (q 2)])), (q 1, .inl (C.1, 625, .inl fZ)), (q 2, .inl (C.1, 625, .inl fZ))]
def wMen (C : CI3) (q : Nat → Nat) : va_W := [(q 0, .inr (1, [.ref (q 1), .ref (q 2), .int 0, .int 0])), (q 1, .inl (C.1, 16, .inl fZ)), (q 2, .inl (C.1, 16, .inl fZ))]
def wMod (C : CI3) (q : Nat → Nat) : va_W := [(q 0, .inr (5, [.ref (q 1), .ref (q 2), .int 0, .ref (q 3), .ref (q 4), .ref (q 5), .int 0, .ref (q 6)])), (q 1, .inl (C.1, 133, .inl (upd fZ 128 4))), (q 2, .inl (C.1, 798, .inl fZ)), (q 3, .inl (C.1, 625, .inl fZ)), (q 4, .inl (C.2.1, 625, .inl fZ)), (q 5, .inl (C.1, 625, .inl fZ)), (q 6, .inl (C.1, 16, .inl fZ))]
def rgF (q : Nat → Nat) : Nat → Option Nat := fun j => (rfAt [some 2, some 8, some 14, some 20, some 26, some 32] j).map q
def wHist (C : CI3) (q : Nat → Nat) : va_W := [(q 0, .inr (0, [.ref (q 1), .int 0, .int 0])), (q 1, .inl (C.2.2, 6, .inr (.inr (.inr (.inr (rgF q))))))] ++ wSheet C (fun k => q (2 + k)) ++ wSheet C (fun k => q (8 + k)) ++ wSheet C (fun k => q (14 + k)) ++ wSheet C (fun k => q (20 + k)) ++ wSheet C (fun k => q (26 + k)) ++ wSheet C (fun k => q (32 + k))
def wLF (C : CI3) (q : Nat → Nat) : va_W := [(q 0, .inr (4, [.ref (q 1), .ref (q 7), .ref (q 45), .ref (q 48), .int 0, .int 0]))] ++ wSheet C (fun k => q (1 + k)) ++ wHist C (fun k => q (7 + k)) ++ wTal C (fun k => q (45 + k)) ++ wMen C (fun k => q (48 + k))
theorem fil_up {f : Nat → Int32} {i : Nat} {v : Int32} : upd (filF f i v) i v = filF f (i + 1) v := by
  funext j
  by_cases h : j = i
  · subst h
    rw [pk_us]
    unfold filF
    rw [if_pos (by omega)]
  · rw [pk_un h]
    unfold filF
    by_cases h1 : j < i
    · rw [if_pos h1, if_pos (by omega)]
    · rw [if_neg h1, if_neg (by omega)]
theorem fil_0 {f : Nat → Int32} {v : Int32} : filF f 0 v = f := by
  funext j
  unfold filF
  rw [if_neg (by omega)]
set_option maxHeartbeats 4000000 in
set_option maxRecDepth 100000 in
theorem fill_loop {p : Program} {l : Launch} {e : Env} {R : Room} {s : State} {m : MethodId} {args : Array Value} {below : List Frame} {meth : Method} {c : Code} {Q : State → Prop} {D : va_G} {C : CI3} {A : Nat → Prop} {a n : Nat} {f : Nat → Int32} {v : Int32} (hn : n < 2 ^ 31) (X : Bx p s m args c cJ7_fill_53178 4 RJ7 D C A)
    (kk : ∀ (H : Heap) (locs : List Loc) (ls : Array Slot), va_P D vwCl [(a, .inl (C.1, n, .inl (filF f n v)))] H → va_D A [(a, .inl (C.1, n, .inl (filF f n v)))] → va_S A s.heap H locs → W p l e R s m args below meth c H locs 0 0 Q (F0 m 20 ls [])) :
    ∀ (k i : Nat), i + k = n → ∀ (H : Heap) (locs : List Loc) (ls : Array Slot), va_P D vwCl [(a, .inl (C.1, n, .inl (filF f i v)))] H → va_D A [(a, .inl (C.1, n, .inl (filF f i v)))] → va_S A s.heap H locs → lv_has ls 4 [(2, .int (nI i)), (0, .ref a), (1, .int v), (3, .int (nI n))] → W p l e R s m args below meth c H locs 0 0 Q (F0 m 5 ls []) := by
  intro k
  induction k with
  | zero =>
    intro i hi H locs ls hP hD hS hl
    have e : i = n := by omega
    subst e
    refine lv_iload_n X.1 X.2.1 dJ7_fill_53178_5 rfl (lv_at hl 0 rfl) ?_
    refine lv_iload_n X.1 X.2.1 dJ7_fill_53178_6 rfl (lv_at hl 3 rfl) ?_
    refine lv_icmp_ge (tgt := 20) X.1 X.2.1 dJ7_fill_53178_7 (by decide) (fun _ => kk H locs ls hP hD hS) (fun h => absurd ((nI_leI hn hn).mpr (Nat.le_refl i)) h)
  | succ k ih =>
    intro i hi H locs ls hP hD hS hl
    refine lv_iload_n X.1 X.2.1 dJ7_fill_53178_5 rfl (lv_at hl 0 rfl) ?_
    refine lv_iload_n X.1 X.2.1 dJ7_fill_53178_6 rfl (lv_at hl 3 rfl) ?_
    refine lv_icmp_ge (tgt := 20) X.1 X.2.1 dJ7_fill_53178_7 (by decide) (fun h => absurd ((nI_leI (by omega) (by omega)).mp h) (by omega)) (fun _ => ?_)
    refine lv_aload_n X.1 X.2.1 dJ7_fill_53178_10 rfl (lv_at hl 1 rfl) ?_
    refine lv_iload_n X.1 X.2.1 dJ7_fill_53178_11 rfl (lv_at hl 0 rfl) ?_
    refine lv_iload_n X.1 X.2.1 dJ7_fill_53178_12 rfl (lv_at hl 2 rfl) ?_
    refine va_iast X.1 X.2.1 X.2.2.2.2.2.2.1 hP hD hS 0 0 rfl rfl (vp_in_nI (show i < n by omega) hn) dJ7_fill_53178_13 (fun H1 locs1 hP1 hD1 hS1 => ?_)
    have e1 : (nI i).toNatClampNeg = i := tn_nI (by omega)
    rw [e1, fil_up] at hP1 hD1
    refine lv_iinc (v := nI (i + 1)) (lv' := [(2, .int (nI (i + 1))), (0, .ref a), (1, .int v), (3, .int (nI n))]) X.1 X.2.1 dJ7_fill_53178_14 hl (k := 0) rfl (nI_1 i) (by decide) rfl (fun ls1 hl1 => ?_)
    refine lv_goto (tgt := 5) X.1 X.2.1 dJ7_fill_53178_17 (by decide) ?_
    exact ih (i + 1) (by omega) H1 locs1 ls1 hP1 hD1 hS1 hl1
set_option maxHeartbeats 4000000 in
set_option maxRecDepth 100000 in
theorem nc_fill (l : Launch) (D : va_G) (C : CI3) (a sz n : Nat) (hn : n < 2 ^ 31) (f : Nat → Int32) (v : Int32) : Met l yJ7_fill_53178 (mws yJ7_fill_53178 cJ7_fill_53178 4 none) (rmN 0 0 0) (va_Pc [.ref a, .int v] (PreN D C [(a, .inl (C.1, n, .inl f))] sz)) (va_Qv (fun _ : Unit => True) (fun _ t => va_P D vwCl [(a, .inl (C.1, n, .inl (filF f n v)))] t.heap ∧ va_D (va_A [(a, .inl (C.1, n, .inl f))] sz) [(a, .inl (C.1, n, .inl (filF f n v)))]) (va_A [(a, .inl (C.1, n, .inl f))] sz)) 0 0 (va_A [(a, .inl (C.1, n, .inl f))] sz) := by
  refine Met.ofW (cc := cJ7_fill_53178) (maxL := 4) (ret := none) (by decide) rfl ?_
  intro p e s m args below meth c s₁ B hml hv
  obtain ⟨rfl, hsz, hP, hD0, hK, hN, hO⟩ := hv
  have hr := B.returns
  have hlocks := B.notSynchronized
  have hts : ∀ w ∈ TB, w.before ([.ref a, .int v] : List Value).toArray s = true := fun w hw => atoms_spec (ws := mws yJ7_fill_53178 cJ7_fill_53178 4 none) B.pre w (List.mem_cons_of_mem _ hw)
  have hown : s.vm.findClass RJ7 = some m.cls := findClass_of_methodNamed B.named
  subst hsz
  have hD := hD0.self (sz := s.heap.size)
  generalize hAe : va_A [(a, .inl (C.1, n, .inl f))] s.heap.size = A at hD ⊢
  have hA : ∀ q : Nat, s.heap.size ≤ q → A q := fun q h => by rw [← hAe]; exact Or.inr h
  have X : Bx p s m ([.ref a, .int v] : List Value).toArray c cJ7_fill_53178 4 RJ7 D C A := ⟨B.exec, B.bytes, hml, hown, hts, hN, hK, hO, hA⟩
  have hl := lv_entry ([.ref a, .int v]) (n := 4) (Nat.le_of_ble_eq_true rfl)
  rw [lg_entry_eq]
  generalize (lg_sl ([.ref a, .int v]) ++ List.replicate (4 - (lg_sl ([.ref a, .int v])).length) Slot.unset).toArray = ls at hl ⊢
  have hl : lv_has ls 4 [(0, .ref a), (1, .int v)] := hl
  refine lv_iconst (v := 0) X.1 X.2.1 dJ7_fill_53178_0 (by decide) ?_
  refine lv_istore_n (lv' := [(2, .int 0), (0, .ref a), (1, .int v)]) X.1 X.2.1 dJ7_fill_53178_1 rfl hl (by decide) rfl (fun ls hl => ?_)
  refine lv_aload_n X.1 X.2.1 dJ7_fill_53178_2 rfl (lv_at hl 1 rfl) ?_
  refine va_alen (v := nI n) (ty := .int) X.1 X.2.1 hK hP 0 0 rfl rfl rfl dJ7_fill_53178_3 ?_
  refine lv_istore_n (lv' := [(3, .int (nI n)), (2, .int 0), (0, .ref a), (1, .int v)]) X.1 X.2.1 dJ7_fill_53178_4 rfl hl (by decide) rfl (fun ls hl => ?_)
  refine fill_loop (f := f) (v := v) hn X (fun H locs ls hP hD hS => ?_) n 0 (by omega) s.heap [] ls (by rw [fil_0]; exact hP) (by rw [fil_0]; exact hD) va_S.rf (lv_sub hl [1, 2, 3, 0] rfl)
  exact W.vret X.1 X.2.1 hr (fun t ht hW => ⟨⟨(), rfl, trivial, by rw [ht]; exact hP, hD⟩, hS.F ht⟩) hS.2.2 dJ7_fill_53178_20 hlocks
set_option maxHeartbeats 4000000 in
set_option maxRecDepth 100000 in
theorem nc_sheet (l : Launch) : NC l yX2_init cX2_init 1 2 5 116 2 [.int 0, .null, .null, .null, .null, .null] wSheet := by
  refine nc_of (own := RX2) (by decide) rfl rfl (by decide) (fun p e s m below meth c D C A h0 ls X hin hr hlocks hP hD hS hl => ?_)
  have hts := X.2.2.2.2.1
  refine lv_aload_n X.1 X.2.1 dX2_init_0 rfl (lv_at hl 0 rfl) ?_
  refine bw_obj X kt_ml_RX2_3 hl.1 (Nat.le_of_ble_eq_true rfl) ⟨Nat.le_of_ble_eq_true rfl, Nat.le_of_ble_eq_true rfl⟩ dX2_init_1 ?_
  refine lv_aload_n X.1 X.2.1 dX2_init_4 rfl (lv_at hl 0 rfl) ?_
  refine lv_iconst (v := 4) X.1 X.2.1 dX2_init_5 (by decide) ?_
  refine bw_put X (ci := 2) (CN := RX2) (T := TX2) (N := 6) inTX2 tyX2 tyX2_ok nmX2 rfl 0 (by decide) kt_fl_X2_9 rfl (ty := .int) (v := .int 4) (by decide +kernel) rfl rfl (Nat.le_of_ble_eq_true rfl) dX2_init_6 hP hD hS (fun H locs hP hD hS => ?_)
  have hP : va_P D vwCl ((h0, .inr (2, [.int 4, .null, .null, .null, .null, .null])) :: []) H := hP
  have hD : va_D A ((h0, .inr (2, [.int 4, .null, .null, .null, .null, .null])) :: []) := hD
  refine lv_aload_n X.1 X.2.1 dX2_init_9 rfl (lv_at hl 0 rfl) ?_
  refine lv_bipush (v := 16) X.1 X.2.1 dX2_init_10 (by decide) ?_
  refine bw_newI X hP hD hS (N' := 16) (by decide) (by decide +kernel) (Nat.le_of_ble_eq_true rfl) ⟨Nat.le_of_ble_eq_true rfl, Nat.le_of_ble_eq_true rfl⟩ dX2_init_12 (fun q1 H hP hD hS => ?_)
  have hP : va_P D vwCl ((h0, .inr (2, [.int 4, .null, .null, .null, .null, .null])) :: [(q1, .inl (C.1, 16, .inl fZ))]) H := hP
  have hD : va_D A ((h0, .inr (2, [.int 4, .null, .null, .null, .null, .null])) :: [(q1, .inl (C.1, 16, .inl fZ))]) := hD
  refine bw_putF X (ci := 2) (CN := RX2) (T := TX2) (N := 6) inTX2 tyX2 tyX2_ok nmX2 rfl 1 (by decide) kt_fl_X2_15 rfl hin rfl (ty := .array .int) (v := .ref q1) (by decide +kernel) rfl rfl (Nat.le_of_ble_eq_true rfl) dX2_init_14 hP hD hS (fun H locs hP hD hS => ?_)
  have hP : va_P D vwCl ((h0, .inr (2, [.int 4, .ref q1, .null, .null, .null, .null])) :: [(q1, .inl (C.1, 16, .inl fZ))]) H := hP
  have hD : va_D A ((h0, .inr (2, [.int 4, .ref q1, .null, .null, .null, .null])) :: [(q1, .inl (C.1, 16, .inl fZ))]) := hD
  refine lv_aload_n X.1 X.2.1 dX2_init_17 rfl (lv_at hl 0 rfl) ?_
  refine lv_bipush (v := 16) X.1 X.2.1 dX2_init_18 (by decide) ?_
  refine bw_newI X hP hD hS (N' := 16) (by decide) (by decide +kernel) (Nat.le_of_ble_eq_true rfl) ⟨Nat.le_of_ble_eq_true rfl, Nat.le_of_ble_eq_true rfl⟩ dX2_init_20 (fun q2 H hP hD hS => ?_)
  have hP : va_P D vwCl ((h0, .inr (2, [.int 4, .ref q1, .null, .null, .null, .null])) :: [(q1, .inl (C.1, 16, .inl fZ)), (q2, .inl (C.1, 16, .inl fZ))]) H := hP
  have hD : va_D A ((h0, .inr (2, [.int 4, .ref q1, .null, .null, .null, .null])) :: [(q1, .inl (C.1, 16, .inl fZ)), (q2, .inl (C.1, 16, .inl fZ))]) := hD
  refine bw_putF X (ci := 2) (CN := RX2) (T := TX2) (N := 6) inTX2 tyX2 tyX2_ok nmX2 rfl 2 (by decide) kt_fl_X2_19 rfl hin rfl (ty := .array .int) (v := .ref q2) (by decide +kernel) rfl rfl (Nat.le_of_ble_eq_true rfl) dX2_init_22 hP hD hS (fun H locs hP hD hS => ?_)
  have hP : va_P D vwCl ((h0, .inr (2, [.int 4, .ref q1, .ref q2, .null, .null, .null])) :: [(q1, .inl (C.1, 16, .inl fZ)), (q2, .inl (C.1, 16, .inl fZ))]) H := hP
  have hD : va_D A ((h0, .inr (2, [.int 4, .ref q1, .ref q2, .null, .null, .null])) :: [(q1, .inl (C.1, 16, .inl fZ)), (q2, .inl (C.1, 16, .inl fZ))]) := hD
  refine lv_aload_n X.1 X.2.1 dX2_init_25 rfl (lv_at hl 0 rfl) ?_
  refine lv_bipush (v := 16) X.1 X.2.1 dX2_init_26 (by decide) ?_
  refine bw_newI X hP hD hS (N' := 16) (by decide) (by decide +kernel) (Nat.le_of_ble_eq_true rfl) ⟨Nat.le_of_ble_eq_true rfl, Nat.le_of_ble_eq_true rfl⟩ dX2_init_28 (fun q3 H hP hD hS => ?_)
  have hP : va_P D vwCl ((h0, .inr (2, [.int 4, .ref q1, .ref q2, .null, .null, .null])) :: [(q1, .inl (C.1, 16, .inl fZ)), (q2, .inl (C.1, 16, .inl fZ)), (q3, .inl (C.1, 16, .inl fZ))]) H := hP
  have hD : va_D A ((h0, .inr (2, [.int 4, .ref q1, .ref q2, .null, .null, .null])) :: [(q1, .inl (C.1, 16, .inl fZ)), (q2, .inl (C.1, 16, .inl fZ)), (q3, .inl (C.1, 16, .inl fZ))]) := hD
  refine bw_putF X (ci := 2) (CN := RX2) (T := TX2) (N := 6) inTX2 tyX2 tyX2_ok nmX2 rfl 3 (by decide) kt_fl_X2_22 rfl hin rfl (ty := .array .int) (v := .ref q3) (by decide +kernel) rfl rfl (Nat.le_of_ble_eq_true rfl) dX2_init_30 hP hD hS (fun H locs hP hD hS => ?_)
  have hP : va_P D vwCl ((h0, .inr (2, [.int 4, .ref q1, .ref q2, .ref q3, .null, .null])) :: [(q1, .inl (C.1, 16, .inl fZ)), (q2, .inl (C.1, 16, .inl fZ)), (q3, .inl (C.1, 16, .inl fZ))]) H := hP
  have hD : va_D A ((h0, .inr (2, [.int 4, .ref q1, .ref q2, .ref q3, .null, .null])) :: [(q1, .inl (C.1, 16, .inl fZ)), (q2, .inl (C.1, 16, .inl fZ)), (q3, .inl (C.1, 16, .inl fZ))]) := hD
  refine lv_aload_n X.1 X.2.1 dX2_init_33 rfl (lv_at hl 0 rfl) ?_
  refine lv_bipush (v := 64) X.1 X.2.1 dX2_init_34 (by decide) ?_
  refine bw_newI X hP hD hS (N' := 64) (by decide) (by decide +kernel) (Nat.le_of_ble_eq_true rfl) ⟨Nat.le_of_ble_eq_true rfl, Nat.le_of_ble_eq_true rfl⟩ dX2_init_36 (fun q4 H hP hD hS => ?_)
  have hP : va_P D vwCl ((h0, .inr (2, [.int 4, .ref q1, .ref q2, .ref q3, .null, .null])) :: [(q1, .inl (C.1, 16, .inl fZ)), (q2, .inl (C.1, 16, .inl fZ)), (q3, .inl (C.1, 16, .inl fZ)), (q4, .inl (C.1, 64, .inl fZ))]) H := hP
  have hD : va_D A ((h0, .inr (2, [.int 4, .ref q1, .ref q2, .ref q3, .null, .null])) :: [(q1, .inl (C.1, 16, .inl fZ)), (q2, .inl (C.1, 16, .inl fZ)), (q3, .inl (C.1, 16, .inl fZ)), (q4, .inl (C.1, 64, .inl fZ))]) := hD
  refine bw_putF X (ci := 2) (CN := RX2) (T := TX2) (N := 6) inTX2 tyX2 tyX2_ok nmX2 rfl 4 (by decide) kt_fl_X2_25 rfl hin rfl (ty := .array .int) (v := .ref q4) (by decide +kernel) rfl rfl (Nat.le_of_ble_eq_true rfl) dX2_init_38 hP hD hS (fun H locs hP hD hS => ?_)
  have hP : va_P D vwCl ((h0, .inr (2, [.int 4, .ref q1, .ref q2, .ref q3, .ref q4, .null])) :: [(q1, .inl (C.1, 16, .inl fZ)), (q2, .inl (C.1, 16, .inl fZ)), (q3, .inl (C.1, 16, .inl fZ)), (q4, .inl (C.1, 64, .inl fZ))]) H := hP
  have hD : va_D A ((h0, .inr (2, [.int 4, .ref q1, .ref q2, .ref q3, .ref q4, .null])) :: [(q1, .inl (C.1, 16, .inl fZ)), (q2, .inl (C.1, 16, .inl fZ)), (q3, .inl (C.1, 16, .inl fZ)), (q4, .inl (C.1, 64, .inl fZ))]) := hD
  refine lv_aload_n X.1 X.2.1 dX2_init_41 rfl (lv_at hl 0 rfl) ?_
  refine lv_iconst (v := 4) X.1 X.2.1 dX2_init_42 (by decide) ?_
  refine bw_newI X hP hD hS (N' := 4) (by decide) (by decide +kernel) (Nat.le_of_ble_eq_true rfl) ⟨Nat.le_of_ble_eq_true rfl, Nat.le_of_ble_eq_true rfl⟩ dX2_init_43 (fun q5 H hP hD hS => ?_)
  have hP : va_P D vwCl ((h0, .inr (2, [.int 4, .ref q1, .ref q2, .ref q3, .ref q4, .null])) :: [(q1, .inl (C.1, 16, .inl fZ)), (q2, .inl (C.1, 16, .inl fZ)), (q3, .inl (C.1, 16, .inl fZ)), (q4, .inl (C.1, 64, .inl fZ)), (q5, .inl (C.1, 4, .inl fZ))]) H := hP
  have hD : va_D A ((h0, .inr (2, [.int 4, .ref q1, .ref q2, .ref q3, .ref q4, .null])) :: [(q1, .inl (C.1, 16, .inl fZ)), (q2, .inl (C.1, 16, .inl fZ)), (q3, .inl (C.1, 16, .inl fZ)), (q4, .inl (C.1, 64, .inl fZ)), (q5, .inl (C.1, 4, .inl fZ))]) := hD
  refine bw_putF X (ci := 2) (CN := RX2) (T := TX2) (N := 6) inTX2 tyX2 tyX2_ok nmX2 rfl 5 (by decide) kt_fl_X2_28 rfl hin rfl (ty := .array .int) (v := .ref q5) (by decide +kernel) rfl rfl (Nat.le_of_ble_eq_true rfl) dX2_init_45 hP hD hS (fun H locs hP hD hS => ?_)
  have hP : va_P D vwCl ((h0, .inr (2, [.int 4, .ref q1, .ref q2, .ref q3, .ref q4, .ref q5])) :: [(q1, .inl (C.1, 16, .inl fZ)), (q2, .inl (C.1, 16, .inl fZ)), (q3, .inl (C.1, 16, .inl fZ)), (q4, .inl (C.1, 64, .inl fZ)), (q5, .inl (C.1, 4, .inl fZ))]) H := hP
  have hD : va_D A ((h0, .inr (2, [.int 4, .ref q1, .ref q2, .ref q3, .ref q4, .ref q5])) :: [(q1, .inl (C.1, 16, .inl fZ)), (q2, .inl (C.1, 16, .inl fZ)), (q3, .inl (C.1, 16, .inl fZ)), (q4, .inl (C.1, 64, .inl fZ)), (q5, .inl (C.1, 4, .inl fZ))]) := hD
  refine lv_aload_n X.1 X.2.1 dX2_init_48 rfl (lv_at hl 0 rfl) ?_
  refine bw_get X (ci := 2) (CN := RX2) (T := TX2) (N := 6) inTX2 rfl 1 (by decide) kt_fl_X2_15 (v := .ref q1) rfl dX2_init_49 hP ?_
  refine lv_iconst (v := -1) X.1 X.2.1 dX2_init_52 (by decide) ?_
  have hPc := hP.sub (ws' := [(q1, .inl (C.1, 16, .inl fZ))]) [1] rfl
  have hDc := hD.sub (ws' := [(q1, .inl (C.1, 16, .inl fZ))]) [1] (by decide) rfl
  have hFc := va_free (wc := [(q1, .inl (C.1, 16, .inl fZ))]) hD hS X.2.2.2.2.2.2.2.2 [1] rfl
  have hG : GoodIn TB (va_wsS RX2 31 yJ7_fill_53178 (mws yJ7_fill_53178 cJ7_fill_53178 4 none)) := goodTB (fun w hw => by
    simp only [va_wsS, mws, List.mem_append, List.mem_cons, List.not_mem_nil, or_false] at hw
    rcases hw with (h | h | h) | h | h
    · rw [h]; exact kt_ml_fill
    · rw [h]; exact kt_st_fill
    · rw [h]; exact kt_ii_fill
    · rw [h]; exact kt_co_fill
    · exact h)
  refine va_callv (va_runS (As := [.ref q1, .int (-1)]) (rest := []) ⟨X.1, X.2.1, X.2.2.1, X.2.2.2.1, hts⟩ (nc_fill l D C q1 H.size 16 (by decide) fZ (-1)) (va_cwS 2 hts hG rfl rfl rfl (by decide +kernel) ⟨Nat.le_of_ble_eq_true rfl, Nat.le_of_ble_eq_true rfl⟩) ⟨preN_blind, fun U hU hW => ⟨rfl, by rw [hU], by rw [hU]; exact hPc, hDc.weaken (fun _ _ _ _ => trivial), va_K.moved hW.alike X.2.2.2.2.2.2.1, fun w hw => nw_warm hW w hw (X.2.2.2.2.2.1 w hw), va_AO.moved hW.alike X.2.2.2.2.2.2.2.1⟩⟩ rfl rfl hl.1 rfl (lv_room (Nat.le_of_ble_eq_true rfl)) dX2_init_53 ⟨Nat.le_of_ble_eq_true rfl, Nat.le_of_ble_eq_true rfl⟩) hS (fun q _ h => hFc q h) hFc (fun u t H1 locs ht hvm hw hB hz1 hk1 hS => ?_)
  obtain ⟨hP1, hD1⟩ := hB
  rw [ht] at hP1
  obtain ⟨hP, hD⟩ := va_join (wr := [(h0, .inr (2, [.int 4, .ref q1, .ref q2, .ref q3, .ref q4, .ref q5])), (q2, .inl (C.1, 16, .inl fZ)), (q3, .inl (C.1, 16, .inl fZ)), (q4, .inl (C.1, 64, .inl fZ)), (q5, .inl (C.1, 4, .inl fZ))]) (w1 := [(q1, .inl (C.1, 16, .inl (filF fZ 16 (-1))))]) hP hD [1] [0, 2, 3, 4, 5] rfl rfl (by decide) (by decide) hk1 hFc hP1 hD1
  have hP2 : va_P D vwCl (wSheet C (fun k => [h0, q1, q2, q3, q4, q5].getD k 0)) H1 := hP.sub [0, 5, 1, 2, 3, 4] rfl
  have hD2 : va_D A (wSheet C (fun k => [h0, q1, q2, q3, q4, q5].getD k 0)) := hD.sub [0, 5, 1, 2, 3, 4] (by decide) rfl
  refine W.widen (k := 5) (n := 116) (Nat.le_of_ble_eq_true rfl) (Nat.le_of_ble_eq_true rfl) ?_
  exact bw_ret X (wf := wSheet) _ hr hlocks hP2 hD2 rfl hS dX2_init_56
set_option maxHeartbeats 4000000 in
set_option maxRecDepth 100000 in
theorem nc_tal (l : Launch) : NC l yX3_init cX3_init 1 2 2 1250 3 [.null, .null] wTal := by
  refine nc_of (own := RX3) (by decide) rfl rfl (by decide) (fun p e s m below meth c D C A h0 ls X hin hr hlocks hP hD hS hl => ?_)
  have hts := X.2.2.2.2.1
  refine lv_aload_n X.1 X.2.1 dX3_init_0 rfl (lv_at hl 0 rfl) ?_
  refine bw_obj X kt_ml_RX3_3 hl.1 (Nat.le_of_ble_eq_true rfl) ⟨Nat.le_of_ble_eq_true rfl, Nat.le_of_ble_eq_true rfl⟩ dX3_init_1 ?_
  refine lv_aload_n X.1 X.2.1 dX3_init_4 rfl (lv_at hl 0 rfl) ?_
  refine lv_sipush (v := 625) X.1 X.2.1 dX3_init_5 (by decide) ?_
  refine bw_newI X hP hD hS (N' := 625) (by decide) (by decide +kernel) (Nat.le_of_ble_eq_true rfl) ⟨Nat.le_of_ble_eq_true rfl, Nat.le_of_ble_eq_true rfl⟩ dX3_init_8 (fun q1 H hP hD hS => ?_)
  have hP : va_P D vwCl ((h0, .inr (3, [.null, .null])) :: [(q1, .inl (C.1, 625, .inl fZ))]) H := hP
  have hD : va_D A ((h0, .inr (3, [.null, .null])) :: [(q1, .inl (C.1, 625, .inl fZ))]) := hD
  refine bw_putF X (ci := 3) (CN := RX3) (T := TX3) (N := 2) inTX3 tyX3 tyX3_ok nmX3 rfl 0 (by decide) kt_fl_X3_9 rfl hin rfl (ty := .array .int) (v := .ref q1) (by decide +kernel) rfl rfl (Nat.le_of_ble_eq_true rfl) dX3_init_10 hP hD hS (fun H locs hP hD hS => ?_)
  have hP : va_P D vwCl ((h0, .inr (3, [.ref q1, .null])) :: [(q1, .inl (C.1, 625, .inl fZ))]) H := hP
  have hD : va_D A ((h0, .inr (3, [.ref q1, .null])) :: [(q1, .inl (C.1, 625, .inl fZ))]) := hD
  refine lv_aload_n X.1 X.2.1 dX3_init_13 rfl (lv_at hl 0 rfl) ?_
  refine lv_sipush (v := 625) X.1 X.2.1 dX3_init_14 (by decide) ?_
  refine bw_newI X hP hD hS (N' := 625) (by decide) (by decide +kernel) (Nat.le_of_ble_eq_true rfl) ⟨Nat.le_of_ble_eq_true rfl, Nat.le_of_ble_eq_true rfl⟩ dX3_init_17 (fun q2 H hP hD hS => ?_)
  have hP : va_P D vwCl ((h0, .inr (3, [.ref q1, .null])) :: [(q1, .inl (C.1, 625, .inl fZ)), (q2, .inl (C.1, 625, .inl fZ))]) H := hP
  have hD : va_D A ((h0, .inr (3, [.ref q1, .null])) :: [(q1, .inl (C.1, 625, .inl fZ)), (q2, .inl (C.1, 625, .inl fZ))]) := hD
  refine bw_putF X (ci := 3) (CN := RX3) (T := TX3) (N := 2) inTX3 tyX3 tyX3_ok nmX3 rfl 1 (by decide) kt_fl_X3_15 rfl hin rfl (ty := .array .int) (v := .ref q2) (by decide +kernel) rfl rfl (Nat.le_of_ble_eq_true rfl) dX3_init_19 hP hD hS (fun H locs hP hD hS => ?_)
  have hP : va_P D vwCl ((h0, .inr (3, [.ref q1, .ref q2])) :: [(q1, .inl (C.1, 625, .inl fZ)), (q2, .inl (C.1, 625, .inl fZ))]) H := hP
  have hD : va_D A ((h0, .inr (3, [.ref q1, .ref q2])) :: [(q1, .inl (C.1, 625, .inl fZ)), (q2, .inl (C.1, 625, .inl fZ))]) := hD
  refine W.widen (k := 2) (n := 1250) (Nat.le_of_ble_eq_true rfl) (Nat.le_of_ble_eq_true rfl) ?_
  exact bw_ret X (wf := wTal) (fun k => [h0, q1, q2].getD k 0) hr hlocks hP hD rfl hS dX3_init_22
set_option maxHeartbeats 4000000 in
set_option maxRecDepth 100000 in
theorem nc_men (l : Launch) : NC l yX1_init cX1_init 1 2 2 32 1 [.null, .null, .int 0, .int 0] wMen := by
  refine nc_of (own := RX1) (by decide) rfl rfl (by decide) (fun p e s m below meth c D C A h0 ls X hin hr hlocks hP hD hS hl => ?_)
  have hts := X.2.2.2.2.1
  refine lv_aload_n X.1 X.2.1 dX1_init_0 rfl (lv_at hl 0 rfl) ?_
  refine bw_obj X kt_ml_RX1_3 hl.1 (Nat.le_of_ble_eq_true rfl) ⟨Nat.le_of_ble_eq_true rfl, Nat.le_of_ble_eq_true rfl⟩ dX1_init_1 ?_
  refine lv_aload_n X.1 X.2.1 dX1_init_4 rfl (lv_at hl 0 rfl) ?_
  refine lv_bipush (v := 16) X.1 X.2.1 dX1_init_5 (by decide) ?_
  refine bw_newI X hP hD hS (N' := 16) (by decide) (by decide +kernel) (Nat.le_of_ble_eq_true rfl) ⟨Nat.le_of_ble_eq_true rfl, Nat.le_of_ble_eq_true rfl⟩ dX1_init_7 (fun q1 H hP hD hS => ?_)
  have hP : va_P D vwCl ((h0, .inr (1, [.null, .null, .int 0, .int 0])) :: [(q1, .inl (C.1, 16, .inl fZ))]) H := hP
  have hD : va_D A ((h0, .inr (1, [.null, .null, .int 0, .int 0])) :: [(q1, .inl (C.1, 16, .inl fZ))]) := hD
  refine bw_putF X (ci := 1) (CN := RX1) (T := TX1) (N := 4) inTX1 tyX1 tyX1_ok nmX1 rfl 0 (by decide) kt_fl_X1_9 rfl hin rfl (ty := .array .int) (v := .ref q1) (by decide +kernel) rfl rfl (Nat.le_of_ble_eq_true rfl) dX1_init_9 hP hD hS (fun H locs hP hD hS => ?_)
  have hP : va_P D vwCl ((h0, .inr (1, [.ref q1, .null, .int 0, .int 0])) :: [(q1, .inl (C.1, 16, .inl fZ))]) H := hP
  have hD : va_D A ((h0, .inr (1, [.ref q1, .null, .int 0, .int 0])) :: [(q1, .inl (C.1, 16, .inl fZ))]) := hD
  refine lv_aload_n X.1 X.2.1 dX1_init_12 rfl (lv_at hl 0 rfl) ?_
  refine lv_bipush (v := 16) X.1 X.2.1 dX1_init_13 (by decide) ?_
  refine bw_newI X hP hD hS (N' := 16) (by decide) (by decide +kernel) (Nat.le_of_ble_eq_true rfl) ⟨Nat.le_of_ble_eq_true rfl, Nat.le_of_ble_eq_true rfl⟩ dX1_init_15 (fun q2 H hP hD hS => ?_)
  have hP : va_P D vwCl ((h0, .inr (1, [.ref q1, .null, .int 0, .int 0])) :: [(q1, .inl (C.1, 16, .inl fZ)), (q2, .inl (C.1, 16, .inl fZ))]) H := hP
  have hD : va_D A ((h0, .inr (1, [.ref q1, .null, .int 0, .int 0])) :: [(q1, .inl (C.1, 16, .inl fZ)), (q2, .inl (C.1, 16, .inl fZ))]) := hD
  refine bw_putF X (ci := 1) (CN := RX1) (T := TX1) (N := 4) inTX1 tyX1 tyX1_ok nmX1 rfl 1 (by decide) kt_fl_X1_15 rfl hin rfl (ty := .array .int) (v := .ref q2) (by decide +kernel) rfl rfl (Nat.le_of_ble_eq_true rfl) dX1_init_17 hP hD hS (fun H locs hP hD hS => ?_)
  have hP : va_P D vwCl ((h0, .inr (1, [.ref q1, .ref q2, .int 0, .int 0])) :: [(q1, .inl (C.1, 16, .inl fZ)), (q2, .inl (C.1, 16, .inl fZ))]) H := hP
  have hD : va_D A ((h0, .inr (1, [.ref q1, .ref q2, .int 0, .int 0])) :: [(q1, .inl (C.1, 16, .inl fZ)), (q2, .inl (C.1, 16, .inl fZ))]) := hD
  refine lv_aload_n X.1 X.2.1 dX1_init_20 rfl (lv_at hl 0 rfl) ?_
  refine lv_iconst (v := 0) X.1 X.2.1 dX1_init_21 (by decide) ?_
  refine bw_put X (ci := 1) (CN := RX1) (T := TX1) (N := 4) inTX1 tyX1 tyX1_ok nmX1 rfl 2 (by decide) kt_fl_X1_18 rfl (ty := .int) (v := .int 0) (by decide +kernel) rfl rfl (Nat.le_of_ble_eq_true rfl) dX1_init_22 hP hD hS (fun H locs hP hD hS => ?_)
  have hP : va_P D vwCl ((h0, .inr (1, [.ref q1, .ref q2, .int 0, .int 0])) :: [(q1, .inl (C.1, 16, .inl fZ)), (q2, .inl (C.1, 16, .inl fZ))]) H := hP
  have hD : va_D A ((h0, .inr (1, [.ref q1, .ref q2, .int 0, .int 0])) :: [(q1, .inl (C.1, 16, .inl fZ)), (q2, .inl (C.1, 16, .inl fZ))]) := hD
  refine lv_aload_n X.1 X.2.1 dX1_init_25 rfl (lv_at hl 0 rfl) ?_
  refine lv_iconst (v := 0) X.1 X.2.1 dX1_init_26 (by decide) ?_
  refine bw_put X (ci := 1) (CN := RX1) (T := TX1) (N := 4) inTX1 tyX1 tyX1_ok nmX1 rfl 3 (by decide) kt_fl_X1_22 rfl (ty := .int) (v := .int 0) (by decide +kernel) rfl rfl (Nat.le_of_ble_eq_true rfl) dX1_init_27 hP hD hS (fun H locs hP hD hS => ?_)
  have hP : va_P D vwCl ((h0, .inr (1, [.ref q1, .ref q2, .int 0, .int 0])) :: [(q1, .inl (C.1, 16, .inl fZ)), (q2, .inl (C.1, 16, .inl fZ))]) H := hP
  have hD : va_D A ((h0, .inr (1, [.ref q1, .ref q2, .int 0, .int 0])) :: [(q1, .inl (C.1, 16, .inl fZ)), (q2, .inl (C.1, 16, .inl fZ))]) := hD
  refine W.widen (k := 2) (n := 32) (Nat.le_of_ble_eq_true rfl) (Nat.le_of_ble_eq_true rfl) ?_
  exact bw_ret X (wf := wMen) (fun k => [h0, q1, q2].getD k 0) hr hlocks hP hD rfl hS dX1_init_30
set_option maxHeartbeats 4000000 in
set_option maxRecDepth 100000 in
theorem nc_mod (l : Launch) : NC l yX5_init cX5_init 1 2 6 2822 5 [.null, .null, .int 0, .null, .null, .null, .int 0, .null] wMod := by
  refine nc_of (own := RX5) (by decide) rfl rfl (by decide) (fun p e s m below meth c D C A h0 ls X hin hr hlocks hP hD hS hl => ?_)
  have hts := X.2.2.2.2.1
  refine lv_aload_n X.1 X.2.1 dX5_init_0 rfl (lv_at hl 0 rfl) ?_
  refine bw_obj X kt_ml_RX5_1 hl.1 (Nat.le_of_ble_eq_true rfl) ⟨Nat.le_of_ble_eq_true rfl, Nat.le_of_ble_eq_true rfl⟩ dX5_init_1 ?_
  refine lv_aload_n X.1 X.2.1 dX5_init_4 rfl (lv_at hl 0 rfl) ?_
  refine lv_sipush (v := 133) X.1 X.2.1 dX5_init_5 (by decide) ?_
  refine bw_newI X hP hD hS (N' := 133) (by decide) (by decide +kernel) (Nat.le_of_ble_eq_true rfl) ⟨Nat.le_of_ble_eq_true rfl, Nat.le_of_ble_eq_true rfl⟩ dX5_init_8 (fun q1 H hP hD hS => ?_)
  have hP : va_P D vwCl ((h0, .inr (5, [.null, .null, .int 0, .null, .null, .null, .int 0, .null])) :: [(q1, .inl (C.1, 133, .inl fZ))]) H := hP
  have hD : va_D A ((h0, .inr (5, [.null, .null, .int 0, .null, .null, .null, .int 0, .null])) :: [(q1, .inl (C.1, 133, .inl fZ))]) := hD
  refine bw_putF X (ci := 5) (CN := RX5) (T := TX5) (N := 8) inTX5 tyX5 tyX5_ok nmX5 rfl 0 (by decide) kt_fl_X5_7 rfl hin rfl (ty := .array .int) (v := .ref q1) (by decide +kernel) rfl rfl (Nat.le_of_ble_eq_true rfl) dX5_init_10 hP hD hS (fun H locs hP hD hS => ?_)
  have hP : va_P D vwCl ((h0, .inr (5, [.ref q1, .null, .int 0, .null, .null, .null, .int 0, .null])) :: [(q1, .inl (C.1, 133, .inl fZ))]) H := hP
  have hD : va_D A ((h0, .inr (5, [.ref q1, .null, .int 0, .null, .null, .null, .int 0, .null])) :: [(q1, .inl (C.1, 133, .inl fZ))]) := hD
  refine lv_aload_n X.1 X.2.1 dX5_init_13 rfl (lv_at hl 0 rfl) ?_
  refine lv_sipush (v := 798) X.1 X.2.1 dX5_init_14 (by decide) ?_
  refine bw_newI X hP hD hS (N' := 798) (by decide) (by decide +kernel) (Nat.le_of_ble_eq_true rfl) ⟨Nat.le_of_ble_eq_true rfl, Nat.le_of_ble_eq_true rfl⟩ dX5_init_17 (fun q2 H hP hD hS => ?_)
  have hP : va_P D vwCl ((h0, .inr (5, [.ref q1, .null, .int 0, .null, .null, .null, .int 0, .null])) :: [(q1, .inl (C.1, 133, .inl fZ)), (q2, .inl (C.1, 798, .inl fZ))]) H := hP
  have hD : va_D A ((h0, .inr (5, [.ref q1, .null, .int 0, .null, .null, .null, .int 0, .null])) :: [(q1, .inl (C.1, 133, .inl fZ)), (q2, .inl (C.1, 798, .inl fZ))]) := hD
  refine bw_putF X (ci := 5) (CN := RX5) (T := TX5) (N := 8) inTX5 tyX5 tyX5_ok nmX5 rfl 1 (by decide) kt_fl_X5_13 rfl hin rfl (ty := .array .int) (v := .ref q2) (by decide +kernel) rfl rfl (Nat.le_of_ble_eq_true rfl) dX5_init_19 hP hD hS (fun H locs hP hD hS => ?_)
  have hP : va_P D vwCl ((h0, .inr (5, [.ref q1, .ref q2, .int 0, .null, .null, .null, .int 0, .null])) :: [(q1, .inl (C.1, 133, .inl fZ)), (q2, .inl (C.1, 798, .inl fZ))]) H := hP
  have hD : va_D A ((h0, .inr (5, [.ref q1, .ref q2, .int 0, .null, .null, .null, .int 0, .null])) :: [(q1, .inl (C.1, 133, .inl fZ)), (q2, .inl (C.1, 798, .inl fZ))]) := hD
  refine lv_aload_n X.1 X.2.1 dX5_init_22 rfl (lv_at hl 0 rfl) ?_
  refine lv_sipush (v := 625) X.1 X.2.1 dX5_init_23 (by decide) ?_
  refine bw_newI X hP hD hS (N' := 625) (by decide) (by decide +kernel) (Nat.le_of_ble_eq_true rfl) ⟨Nat.le_of_ble_eq_true rfl, Nat.le_of_ble_eq_true rfl⟩ dX5_init_26 (fun q3 H hP hD hS => ?_)
  have hP : va_P D vwCl ((h0, .inr (5, [.ref q1, .ref q2, .int 0, .null, .null, .null, .int 0, .null])) :: [(q1, .inl (C.1, 133, .inl fZ)), (q2, .inl (C.1, 798, .inl fZ)), (q3, .inl (C.1, 625, .inl fZ))]) H := hP
  have hD : va_D A ((h0, .inr (5, [.ref q1, .ref q2, .int 0, .null, .null, .null, .int 0, .null])) :: [(q1, .inl (C.1, 133, .inl fZ)), (q2, .inl (C.1, 798, .inl fZ)), (q3, .inl (C.1, 625, .inl fZ))]) := hD
  refine bw_putF X (ci := 5) (CN := RX5) (T := TX5) (N := 8) inTX5 tyX5 tyX5_ok nmX5 rfl 3 (by decide) kt_fl_X5_16 rfl hin rfl (ty := .array .int) (v := .ref q3) (by decide +kernel) rfl rfl (Nat.le_of_ble_eq_true rfl) dX5_init_28 hP hD hS (fun H locs hP hD hS => ?_)
  have hP : va_P D vwCl ((h0, .inr (5, [.ref q1, .ref q2, .int 0, .ref q3, .null, .null, .int 0, .null])) :: [(q1, .inl (C.1, 133, .inl fZ)), (q2, .inl (C.1, 798, .inl fZ)), (q3, .inl (C.1, 625, .inl fZ))]) H := hP
  have hD : va_D A ((h0, .inr (5, [.ref q1, .ref q2, .int 0, .ref q3, .null, .null, .int 0, .null])) :: [(q1, .inl (C.1, 133, .inl fZ)), (q2, .inl (C.1, 798, .inl fZ)), (q3, .inl (C.1, 625, .inl fZ))]) := hD
  refine lv_aload_n X.1 X.2.1 dX5_init_31 rfl (lv_at hl 0 rfl) ?_
  refine lv_sipush (v := 625) X.1 X.2.1 dX5_init_32 (by decide) ?_
  refine bw_newZ X hP hD hS (N' := 625) (by decide) (by decide +kernel) (Nat.le_of_ble_eq_true rfl) ⟨Nat.le_of_ble_eq_true rfl, Nat.le_of_ble_eq_true rfl⟩ dX5_init_35 (fun q4 H hP hD hS => ?_)
  have hP : va_P D vwCl ((h0, .inr (5, [.ref q1, .ref q2, .int 0, .ref q3, .null, .null, .int 0, .null])) :: [(q1, .inl (C.1, 133, .inl fZ)), (q2, .inl (C.1, 798, .inl fZ)), (q3, .inl (C.1, 625, .inl fZ)), (q4, .inl (C.2.1, 625, .inl fZ))]) H := hP
  have hD : va_D A ((h0, .inr (5, [.ref q1, .ref q2, .int 0, .ref q3, .null, .null, .int 0, .null])) :: [(q1, .inl (C.1, 133, .inl fZ)), (q2, .inl (C.1, 798, .inl fZ)), (q3, .inl (C.1, 625, .inl fZ)), (q4, .inl (C.2.1, 625, .inl fZ))]) := hD
  refine bw_putF X (ci := 5) (CN := RX5) (T := TX5) (N := 8) inTX5 tyX5 tyX5_ok nmX5 rfl 4 (by decide) kt_fl_X5_19 rfl hin rfl (ty := .array .boolean) (v := .ref q4) (by decide +kernel) rfl rfl (Nat.le_of_ble_eq_true rfl) dX5_init_37 hP hD hS (fun H locs hP hD hS => ?_)
  have hP : va_P D vwCl ((h0, .inr (5, [.ref q1, .ref q2, .int 0, .ref q3, .ref q4, .null, .int 0, .null])) :: [(q1, .inl (C.1, 133, .inl fZ)), (q2, .inl (C.1, 798, .inl fZ)), (q3, .inl (C.1, 625, .inl fZ)), (q4, .inl (C.2.1, 625, .inl fZ))]) H := hP
  have hD : va_D A ((h0, .inr (5, [.ref q1, .ref q2, .int 0, .ref q3, .ref q4, .null, .int 0, .null])) :: [(q1, .inl (C.1, 133, .inl fZ)), (q2, .inl (C.1, 798, .inl fZ)), (q3, .inl (C.1, 625, .inl fZ)), (q4, .inl (C.2.1, 625, .inl fZ))]) := hD
  refine lv_aload_n X.1 X.2.1 dX5_init_40 rfl (lv_at hl 0 rfl) ?_
  refine lv_sipush (v := 625) X.1 X.2.1 dX5_init_41 (by decide) ?_
  refine bw_newI X hP hD hS (N' := 625) (by decide) (by decide +kernel) (Nat.le_of_ble_eq_true rfl) ⟨Nat.le_of_ble_eq_true rfl, Nat.le_of_ble_eq_true rfl⟩ dX5_init_44 (fun q5 H hP hD hS => ?_)
  have hP : va_P D vwCl ((h0, .inr (5, [.ref q1, .ref q2, .int 0, .ref q3, .ref q4, .null, .int 0, .null])) :: [(q1, .inl (C.1, 133, .inl fZ)), (q2, .inl (C.1, 798, .inl fZ)), (q3, .inl (C.1, 625, .inl fZ)), (q4, .inl (C.2.1, 625, .inl fZ)), (q5, .inl (C.1, 625, .inl fZ))]) H := hP
  have hD : va_D A ((h0, .inr (5, [.ref q1, .ref q2, .int 0, .ref q3, .ref q4, .null, .int 0, .null])) :: [(q1, .inl (C.1, 133, .inl fZ)), (q2, .inl (C.1, 798, .inl fZ)), (q3, .inl (C.1, 625, .inl fZ)), (q4, .inl (C.2.1, 625, .inl fZ)), (q5, .inl (C.1, 625, .inl fZ))]) := hD
  refine bw_putF X (ci := 5) (CN := RX5) (T := TX5) (N := 8) inTX5 tyX5 tyX5_ok nmX5 rfl 5 (by decide) kt_fl_X5_23 rfl hin rfl (ty := .array .int) (v := .ref q5) (by decide +kernel) rfl rfl (Nat.le_of_ble_eq_true rfl) dX5_init_46 hP hD hS (fun H locs hP hD hS => ?_)
  have hP : va_P D vwCl ((h0, .inr (5, [.ref q1, .ref q2, .int 0, .ref q3, .ref q4, .ref q5, .int 0, .null])) :: [(q1, .inl (C.1, 133, .inl fZ)), (q2, .inl (C.1, 798, .inl fZ)), (q3, .inl (C.1, 625, .inl fZ)), (q4, .inl (C.2.1, 625, .inl fZ)), (q5, .inl (C.1, 625, .inl fZ))]) H := hP
  have hD : va_D A ((h0, .inr (5, [.ref q1, .ref q2, .int 0, .ref q3, .ref q4, .ref q5, .int 0, .null])) :: [(q1, .inl (C.1, 133, .inl fZ)), (q2, .inl (C.1, 798, .inl fZ)), (q3, .inl (C.1, 625, .inl fZ)), (q4, .inl (C.2.1, 625, .inl fZ)), (q5, .inl (C.1, 625, .inl fZ))]) := hD
  refine lv_aload_n X.1 X.2.1 dX5_init_49 rfl (lv_at hl 0 rfl) ?_
  refine lv_bipush (v := 16) X.1 X.2.1 dX5_init_50 (by decide) ?_
  refine bw_newI X hP hD hS (N' := 16) (by decide) (by decide +kernel) (Nat.le_of_ble_eq_true rfl) ⟨Nat.le_of_ble_eq_true rfl, Nat.le_of_ble_eq_true rfl⟩ dX5_init_52 (fun q6 H hP hD hS => ?_)
  have hP : va_P D vwCl ((h0, .inr (5, [.ref q1, .ref q2, .int 0, .ref q3, .ref q4, .ref q5, .int 0, .null])) :: [(q1, .inl (C.1, 133, .inl fZ)), (q2, .inl (C.1, 798, .inl fZ)), (q3, .inl (C.1, 625, .inl fZ)), (q4, .inl (C.2.1, 625, .inl fZ)), (q5, .inl (C.1, 625, .inl fZ)), (q6, .inl (C.1, 16, .inl fZ))]) H := hP
  have hD : va_D A ((h0, .inr (5, [.ref q1, .ref q2, .int 0, .ref q3, .ref q4, .ref q5, .int 0, .null])) :: [(q1, .inl (C.1, 133, .inl fZ)), (q2, .inl (C.1, 798, .inl fZ)), (q3, .inl (C.1, 625, .inl fZ)), (q4, .inl (C.2.1, 625, .inl fZ)), (q5, .inl (C.1, 625, .inl fZ)), (q6, .inl (C.1, 16, .inl fZ))]) := hD
  refine bw_putF X (ci := 5) (CN := RX5) (T := TX5) (N := 8) inTX5 tyX5 tyX5_ok nmX5 rfl 7 (by decide) kt_fl_X5_26 rfl hin rfl (ty := .array .int) (v := .ref q6) (by decide +kernel) rfl rfl (Nat.le_of_ble_eq_true rfl) dX5_init_54 hP hD hS (fun H locs hP hD hS => ?_)
  have hP : va_P D vwCl ((h0, .inr (5, [.ref q1, .ref q2, .int 0, .ref q3, .ref q4, .ref q5, .int 0, .ref q6])) :: [(q1, .inl (C.1, 133, .inl fZ)), (q2, .inl (C.1, 798, .inl fZ)), (q3, .inl (C.1, 625, .inl fZ)), (q4, .inl (C.2.1, 625, .inl fZ)), (q5, .inl (C.1, 625, .inl fZ)), (q6, .inl (C.1, 16, .inl fZ))]) H := hP
  have hD : va_D A ((h0, .inr (5, [.ref q1, .ref q2, .int 0, .ref q3, .ref q4, .ref q5, .int 0, .ref q6])) :: [(q1, .inl (C.1, 133, .inl fZ)), (q2, .inl (C.1, 798, .inl fZ)), (q3, .inl (C.1, 625, .inl fZ)), (q4, .inl (C.2.1, 625, .inl fZ)), (q5, .inl (C.1, 625, .inl fZ)), (q6, .inl (C.1, 16, .inl fZ))]) := hD
  refine lv_aload_n X.1 X.2.1 dX5_init_57 rfl (lv_at hl 0 rfl) ?_
  refine bw_get X (ci := 5) (CN := RX5) (T := TX5) (N := 8) inTX5 rfl 0 (by decide) kt_fl_X5_7 (v := .ref q1) rfl dX5_init_58 hP ?_
  refine lv_sipush (v := nI 128) X.1 X.2.1 dX5_init_61 (by decide) ?_
  refine lv_iconst (v := 4) X.1 X.2.1 dX5_init_64 (by decide) ?_
  refine va_iast X.1 X.2.1 X.2.2.2.2.2.2.1 hP hD hS 1 0 rfl rfl (vp_in_nI (show 128 < 133 by decide) (by decide)) dX5_init_65 (fun H locs hP hD hS => ?_)
  have e1 : (nI 128).toNatClampNeg = 128 := tn_nI (by decide)
  rw [e1] at hP hD
  refine W.widen (k := 6) (n := 2822) (Nat.le_of_ble_eq_true rfl) (Nat.le_of_ble_eq_true rfl) ?_
  exact bw_ret X (wf := wMod) (fun k => [h0, q1, q2, q3, q4, q5, q6].getD k 0) hr hlocks hP hD rfl hS dX5_init_66
set_option maxHeartbeats 4000000 in
set_option maxRecDepth 100000 in
theorem hs_it {p : Program} {l : Launch} {e : Env} {R : Room} {s : State} {m : MethodId} {args : Array Value} {below : List Frame} {meth : Method} {c : Code} {cells slots : Nat} {Q : State → Prop} {D : va_G} {C : CI3} {A : Nat → Prop} (X : Bx p s m args c cX0_init 2 RX0 D C A) (hR : 3 ≤ R.frames ∧ 300 ≤ R.locals) (hcs : cells + 6 ≤ R.cells ∧ slots + 122 ≤ R.slots) {h0 r i : Nat} {f : Nat → Option Nat} {wr : va_W} (hi : i < 6) {H : Heap} {locs : List Loc} {ls : Array Slot} (hP : va_P D vwCl ((h0, .inr (0, [.ref r, .int 0, .int 0])) :: (r, .inl (C.2.2, 6, .inr (.inr (.inr (.inr f))))) :: wr) H) (hD : va_D A ((h0, .inr (0, [.ref r, .int 0, .int 0])) :: (r, .inl (C.2.2, 6, .inr (.inr (.inr (.inr f))))) :: wr)) (hS : va_S A s.heap H locs) (hl : lv_has ls 2 [(1, .int (nI i)), (0, .ref h0)])
    (kk : ∀ (q : Nat → Nat) (H : Heap) (locs : List Loc) (ls : Array Slot), va_P D vwCl ((h0, .inr (0, [.ref r, .int 0, .int 0])) :: (r, .inl (C.2.2, 6, .inr (.inr (.inr (.inr (va_up f i (some (q 0)))))))) :: (wr ++ wSheet C q)) H → va_D A ((h0, .inr (0, [.ref r, .int 0, .int 0])) :: (r, .inl (C.2.2, 6, .inr (.inr (.inr (.inr (va_up f i (some (q 0)))))))) :: (wr ++ wSheet C q)) → va_S A s.heap H locs → lv_has ls 2 [(1, .int (nI (i + 1))), (0, .ref h0)] → W p l e R s m args below meth c H locs (cells + 6) (slots + 122) Q (F0 m 25 ls [])) : W p l e R s m args below meth c H locs cells slots Q (F0 m 25 ls []) := by
  refine lv_iload_n X.1 X.2.1 dX0_init_25 rfl (lv_at hl 0 rfl) ?_
  refine lv_bipush (v := nI 6) X.1 X.2.1 dX0_init_26 (by decide) ?_
  refine lv_icmp_ge (tgt := 50) X.1 X.2.1 dX0_init_28 (by decide) (fun h => absurd ((nI_leI (by omega) (by omega)).mp h) (by omega)) (fun _ => ?_)
  refine lv_aload_n X.1 X.2.1 dX0_init_31 rfl (lv_at hl 1 rfl) ?_
  refine bw_get X (ci := 0) (CN := RX0) (T := TX0) (N := 3) inTX0 rfl 0 (by decide) kt_fl_X0_11 (v := .ref r) rfl dX0_init_32 hP ?_
  refine lv_iload_n X.1 X.2.1 dX0_init_35 rfl (lv_at hl 0 rfl) ?_
  refine bw_new X (ci := 2) (CN := RX2) (T := TX2) (N := 6) (mc := 5) (ms := 116) (fs := [.int 0, .null, .null, .null, .null, .null]) (wf := wSheet) inTX2 tyX2 tyX2_ok kt_cl_RX0_9 kt_in_RX2 kt_ii_RX2 rfl (fun j hj => by rcases (show j = 0 ∨ j = 1 ∨ j = 2 ∨ j = 3 ∨ j = 4 ∨ j = 5 by omega) with rfl | rfl | rfl | rfl | rfl | rfl <;> rfl) dX0_init_36 dX0_init_39 ⟨by omega, by omega⟩ hP hD hS (fun q H' hp => bw_runI X (nc_sheet l) kt_co_yX2_init kt_ii_RX2 kt_ml_RX0_24 kt_im_yX2_init rfl (by decide +kernel) ⟨by omega, by omega⟩ (Nat.le_of_ble_eq_true rfl) hl.1 dX0_init_40 ⟨by omega, by omega⟩ hp) (fun q H locs hP hD hS => ?_)
  refine va_astq X.1 X.2.1 X.2.2.2.2.2.2.1 hP hD hS 1 2 (2 + wr.length) 2 (r := (RX2, TX2, 6)) (vs := [.int 4, .ref (q 1), .ref (q 2), .ref (q 3), .ref (q 4), .ref (q 5)]) rfl rfl (by simp [wSheet, Nat.add_comm 2]) rfl (vp_in_nI hi (by decide)) dX0_init_43 (fun H locs hP hD hS => ?_)
  have e1 : (nI i).toNatClampNeg = i := tn_nI (by omega)
  rw [e1] at hP hD
  refine lv_iinc (v := nI (i + 1)) (lv' := [(1, .int (nI (i + 1))), (0, .ref h0)]) X.1 X.2.1 dX0_init_44 hl (k := 0) rfl (nI_1 i) (by decide) rfl (fun ls hl => ?_)
  refine lv_goto (tgt := 25) X.1 X.2.1 dX0_init_47 (by decide) ?_
  refine W.widen (k := cells + 6) (n := slots + 122) (by omega) (by omega) ?_
  exact kk q H locs ls hP hD hS hl
set_option maxHeartbeats 4000000 in
set_option maxRecDepth 100000 in
theorem nc_hist (l : Launch) : NC l yX0_init cX0_init 2 4 37 738 0 [.null, .int 0, .int 0] wHist := by
  refine nc_of (own := RX0) (by decide) rfl rfl (by decide) (fun p e s m below meth c D C A h0 ls X hin hr hlocks hP hD hS hl => ?_)
  have hts := X.2.2.2.2.1
  refine lv_aload_n X.1 X.2.1 dX0_init_0 rfl (lv_at hl 0 rfl) ?_
  refine bw_obj X kt_ml_RX0_3 hl.1 (Nat.le_of_ble_eq_true rfl) ⟨Nat.le_of_ble_eq_true rfl, Nat.le_of_ble_eq_true rfl⟩ dX0_init_1 ?_
  refine lv_aload_n X.1 X.2.1 dX0_init_4 rfl (lv_at hl 0 rfl) ?_
  refine lv_bipush (v := 6) X.1 X.2.1 dX0_init_5 (by decide) ?_
  refine bw_newR X kt_cl_RX0_9 hP hD hS (N' := 6) (by decide) (by decide +kernel) (Nat.le_of_ble_eq_true rfl) ⟨Nat.le_of_ble_eq_true rfl, Nat.le_of_ble_eq_true rfl⟩ dX0_init_7 (fun r H hP hD hS => ?_)
  have hP : va_P D vwCl ((h0, .inr (0, [.null, .int 0, .int 0])) :: [(r, .inl (C.2.2, 6, .inr (.inr (.inr (.inr (fun _ => none))))))]) H := hP
  have hD : va_D A ((h0, .inr (0, [.null, .int 0, .int 0])) :: [(r, .inl (C.2.2, 6, .inr (.inr (.inr (.inr (fun _ => none))))))]) := hD
  refine bw_putF X (ci := 0) (CN := RX0) (T := TX0) (N := 3) inTX0 tyX0 tyX0_ok nmX0 rfl 0 (by decide) kt_fl_X0_11 rfl hin rfl (ty := .array (.object "LawFinder$Sheet")) (v := .ref r) (by decide +kernel) rfl rfl (Nat.le_of_ble_eq_true rfl) dX0_init_10 hP hD hS (fun H locs hP hD hS => ?_)
  have hP : va_P D vwCl ((h0, .inr (0, [.ref r, .int 0, .int 0])) :: [(r, .inl (C.2.2, 6, .inr (.inr (.inr (.inr (fun _ => none))))))]) H := hP
  have hD : va_D A ((h0, .inr (0, [.ref r, .int 0, .int 0])) :: [(r, .inl (C.2.2, 6, .inr (.inr (.inr (.inr (fun _ => none))))))]) := hD
  refine lv_aload_n X.1 X.2.1 dX0_init_13 rfl (lv_at hl 0 rfl) ?_
  refine lv_iconst (v := 0) X.1 X.2.1 dX0_init_14 (by decide) ?_
  refine bw_put X (ci := 0) (CN := RX0) (T := TX0) (N := 3) inTX0 tyX0 tyX0_ok nmX0 rfl 1 (by decide) kt_fl_X0_17 rfl (ty := .int) (v := .int 0) (by decide +kernel) rfl rfl (Nat.le_of_ble_eq_true rfl) dX0_init_15 hP hD hS (fun H locs hP hD hS => ?_)
  have hP : va_P D vwCl ((h0, .inr (0, [.ref r, .int 0, .int 0])) :: [(r, .inl (C.2.2, 6, .inr (.inr (.inr (.inr (fun _ => none))))))]) H := hP
  have hD : va_D A ((h0, .inr (0, [.ref r, .int 0, .int 0])) :: [(r, .inl (C.2.2, 6, .inr (.inr (.inr (.inr (fun _ => none))))))]) := hD
  refine lv_aload_n X.1 X.2.1 dX0_init_18 rfl (lv_at hl 0 rfl) ?_
  refine lv_iconst (v := 0) X.1 X.2.1 dX0_init_19 (by decide) ?_
  refine bw_put X (ci := 0) (CN := RX0) (T := TX0) (N := 3) inTX0 tyX0 tyX0_ok nmX0 rfl 2 (by decide) kt_fl_X0_21 rfl (ty := .int) (v := .int 0) (by decide +kernel) rfl rfl (Nat.le_of_ble_eq_true rfl) dX0_init_20 hP hD hS (fun H locs hP hD hS => ?_)
  have hP : va_P D vwCl ((h0, .inr (0, [.ref r, .int 0, .int 0])) :: [(r, .inl (C.2.2, 6, .inr (.inr (.inr (.inr (fun _ => none))))))]) H := hP
  have hD : va_D A ((h0, .inr (0, [.ref r, .int 0, .int 0])) :: [(r, .inl (C.2.2, 6, .inr (.inr (.inr (.inr (fun _ => none))))))]) := hD
  refine lv_iconst (v := 0) X.1 X.2.1 dX0_init_23 (by decide) ?_
  refine lv_istore_n (lv' := [(1, .int 0), (0, .ref h0)]) X.1 X.2.1 dX0_init_24 rfl hl (by decide) rfl (fun ls hl => ?_)
  have hl : lv_has ls 2 [(1, .int (nI 0)), (0, .ref h0)] := hl
  refine hs_it X ⟨Nat.le_of_ble_eq_true rfl, Nat.le_of_ble_eq_true rfl⟩ ⟨Nat.le_of_ble_eq_true rfl, Nat.le_of_ble_eq_true rfl⟩ (i := 0) (by decide) hP hD hS hl (fun q0 H locs ls hP hD hS hl => ?_)
  refine hs_it X ⟨Nat.le_of_ble_eq_true rfl, Nat.le_of_ble_eq_true rfl⟩ ⟨Nat.le_of_ble_eq_true rfl, Nat.le_of_ble_eq_true rfl⟩ (i := 1) (by decide) hP hD hS hl (fun q1 H locs ls hP hD hS hl => ?_)
  refine hs_it X ⟨Nat.le_of_ble_eq_true rfl, Nat.le_of_ble_eq_true rfl⟩ ⟨Nat.le_of_ble_eq_true rfl, Nat.le_of_ble_eq_true rfl⟩ (i := 2) (by decide) hP hD hS hl (fun q2 H locs ls hP hD hS hl => ?_)
  refine hs_it X ⟨Nat.le_of_ble_eq_true rfl, Nat.le_of_ble_eq_true rfl⟩ ⟨Nat.le_of_ble_eq_true rfl, Nat.le_of_ble_eq_true rfl⟩ (i := 3) (by decide) hP hD hS hl (fun q3 H locs ls hP hD hS hl => ?_)
  refine hs_it X ⟨Nat.le_of_ble_eq_true rfl, Nat.le_of_ble_eq_true rfl⟩ ⟨Nat.le_of_ble_eq_true rfl, Nat.le_of_ble_eq_true rfl⟩ (i := 4) (by decide) hP hD hS hl (fun q4 H locs ls hP hD hS hl => ?_)
  refine hs_it X ⟨Nat.le_of_ble_eq_true rfl, Nat.le_of_ble_eq_true rfl⟩ ⟨Nat.le_of_ble_eq_true rfl, Nat.le_of_ble_eq_true rfl⟩ (i := 5) (by decide) hP hD hS hl (fun q5 H locs ls hP hD hS hl => ?_)
  refine lv_iload_n X.1 X.2.1 dX0_init_25 rfl (lv_at hl 0 rfl) ?_
  refine lv_bipush (v := nI 6) X.1 X.2.1 dX0_init_26 (by decide) ?_
  refine lv_icmp_ge (tgt := 50) X.1 X.2.1 dX0_init_28 (by decide) (fun _ => ?_) (fun h => absurd ((nI_leI (by decide) (by decide)).mpr (Nat.le_refl 6)) h)
  obtain ⟨q, hq⟩ : ∃ q : Nat → Nat, q = fun k => if k = 0 then h0 else if k = 1 then r else if k < 8 then q0 (k - 2) else if k < 14 then q1 (k - 8) else if k < 20 then q2 (k - 14) else if k < 26 then q3 (k - 20) else if k < 32 then q4 (k - 26) else q5 (k - 32) := ⟨_, rfl⟩
  have er : va_up (va_up (va_up (va_up (va_up (va_up (fun _ => none) 0 (some (q0 0))) 1 (some (q1 0))) 2 (some (q2 0))) 3 (some (q3 0))) 4 (some (q4 0))) 5 (some (q5 0)) = rgF q := by
    subst hq
    funext j
    match j with
    | 0 => rfl
    | 1 => rfl
    | 2 => rfl
    | 3 => rfl
    | 4 => rfl
    | 5 => rfl
    | n + 6 => rfl
  rw [er] at hP hD
  have ew : ((h0, .inr (0, [.ref r, .int 0, .int 0])) :: (r, .inl (C.2.2, 6, .inr (.inr (.inr (.inr (rgF q)))))) :: (((((([] ++ wSheet C q0) ++ wSheet C q1) ++ wSheet C q2) ++ wSheet C q3) ++ wSheet C q4) ++ wSheet C q5) : va_W) = wHist C q := by
    unfold wHist
    generalize rgF q = F
    subst hq
    rfl
  have hP2 : va_P D vwCl (wHist C q) H := by rw [← ew]; exact hP
  have hD2 : va_D A (wHist C q) := by rw [← ew]; exact hD
  refine W.widen (k := 37) (n := 738) (Nat.le_of_ble_eq_true rfl) (Nat.le_of_ble_eq_true rfl) ?_
  exact bw_ret X (wf := wHist) q hr hlocks hP2 hD2 (by rw [hq]; rfl) hS dX0_init_50
set_option maxHeartbeats 4000000 in
set_option maxRecDepth 100000 in
theorem nc_lf (l : Launch) : NC l yX4_init cX4_init 1 6 50 2151 4 [.null, .null, .null, .null, .int 0, .int 0] wLF := by
  refine nc_of (own := RX4) (by decide) rfl rfl (by decide) (fun p e s m below meth c D C A h0 ls X hin hr hlocks hP hD hS hl => ?_)
  have hts := X.2.2.2.2.1
  refine lv_aload_n X.1 X.2.1 dX4_init_0 rfl (lv_at hl 0 rfl) ?_
  refine bw_obj X kt_ml_RX4_1 hl.1 (Nat.le_of_ble_eq_true rfl) ⟨Nat.le_of_ble_eq_true rfl, Nat.le_of_ble_eq_true rfl⟩ dX4_init_1 ?_
  refine lv_aload_n X.1 X.2.1 dX4_init_4 rfl (lv_at hl 0 rfl) ?_
  refine bw_new X (ci := 2) (CN := RX2) (T := TX2) (N := 6) (mc := 5) (ms := 116) (fs := [.int 0, .null, .null, .null, .null, .null]) (wf := wSheet) inTX2 tyX2 tyX2_ok kt_cl_RX4_7 kt_in_RX2 kt_ii_RX2 rfl (fun j hj => by rcases (show j = 0 ∨ j = 1 ∨ j = 2 ∨ j = 3 ∨ j = 4 ∨ j = 5 by omega) with rfl | rfl | rfl | rfl | rfl | rfl <;> rfl) dX4_init_5 dX4_init_8 ⟨Nat.le_of_ble_eq_true rfl, Nat.le_of_ble_eq_true rfl⟩ hP hD hS (fun q H' hp => bw_runI X (nc_sheet l) kt_co_yX2_init kt_ii_RX2 kt_ml_RX4_9 kt_im_yX2_init rfl (by decide +kernel) ⟨Nat.le_of_ble_eq_true rfl, Nat.le_of_ble_eq_true rfl⟩ (Nat.le_of_ble_eq_true rfl) hl.1 dX4_init_9 ⟨Nat.le_of_ble_eq_true rfl, Nat.le_of_ble_eq_true rfl⟩ hp) (fun qs H locs hP hD hS => ?_)
  have hP : va_P D vwCl ((h0, .inr (4, [.null, .null, .null, .null, .int 0, .int 0])) :: (([] : va_W) ++ wSheet C qs)) H := hP
  have hD : va_D A ((h0, .inr (4, [.null, .null, .null, .null, .int 0, .int 0])) :: (([] : va_W) ++ wSheet C qs)) := hD
  refine bw_putF X (ci := 4) (CN := RX4) (T := TX4) (N := 6) inTX4 tyX4 tyX4_ok nmX4 rfl 0 (by decide) kt_fl_X4_10 rfl hin rfl (ty := .object RX2) (v := .ref (qs 0)) (by decide +kernel) rfl rfl (Nat.le_of_ble_eq_true rfl) dX4_init_12 hP hD hS (fun H locs hP hD hS => ?_)
  have hP : va_P D vwCl ((h0, .inr (4, [.ref (qs 0), .null, .null, .null, .int 0, .int 0])) :: (([] : va_W) ++ wSheet C qs)) H := hP
  have hD : va_D A ((h0, .inr (4, [.ref (qs 0), .null, .null, .null, .int 0, .int 0])) :: (([] : va_W) ++ wSheet C qs)) := hD
  refine lv_aload_n X.1 X.2.1 dX4_init_15 rfl (lv_at hl 0 rfl) ?_
  refine bw_new X (ci := 0) (CN := RX0) (T := TX0) (N := 3) (mc := 37) (ms := 738) (fs := [.null, .int 0, .int 0]) (wf := wHist) inTX0 tyX0 tyX0_ok kt_cl_RX4_16 kt_in_RX0 kt_ii_RX0 rfl (fun j hj => by rcases (show j = 0 ∨ j = 1 ∨ j = 2 by omega) with rfl | rfl | rfl <;> rfl) dX4_init_16 dX4_init_19 ⟨Nat.le_of_ble_eq_true rfl, Nat.le_of_ble_eq_true rfl⟩ hP hD hS (fun q H' hp => bw_runI X (nc_hist l) kt_co_yX0_init kt_ii_RX0 kt_ml_RX4_18 kt_im_yX0_init rfl (by decide +kernel) ⟨Nat.le_of_ble_eq_true rfl, Nat.le_of_ble_eq_true rfl⟩ (Nat.le_of_ble_eq_true rfl) hl.1 dX4_init_20 ⟨Nat.le_of_ble_eq_true rfl, Nat.le_of_ble_eq_true rfl⟩ hp) (fun qh H locs hP hD hS => ?_)
  have hP : va_P D vwCl ((h0, .inr (4, [.ref (qs 0), .null, .null, .null, .int 0, .int 0])) :: (([] : va_W) ++ wSheet C qs ++ wHist C qh)) H := hP
  have hD : va_D A ((h0, .inr (4, [.ref (qs 0), .null, .null, .null, .int 0, .int 0])) :: (([] : va_W) ++ wSheet C qs ++ wHist C qh)) := hD
  refine bw_putF X (ci := 4) (CN := RX4) (T := TX4) (N := 6) inTX4 tyX4 tyX4_ok nmX4 rfl 1 (by decide) kt_fl_X4_19 rfl hin rfl (ty := .object RX0) (v := .ref (qh 0)) (by decide +kernel) rfl rfl (Nat.le_of_ble_eq_true rfl) dX4_init_23 hP hD hS (fun H locs hP hD hS => ?_)
  have hP : va_P D vwCl ((h0, .inr (4, [.ref (qs 0), .ref (qh 0), .null, .null, .int 0, .int 0])) :: (([] : va_W) ++ wSheet C qs ++ wHist C qh)) H := hP
  have hD : va_D A ((h0, .inr (4, [.ref (qs 0), .ref (qh 0), .null, .null, .int 0, .int 0])) :: (([] : va_W) ++ wSheet C qs ++ wHist C qh)) := hD
  refine lv_aload_n X.1 X.2.1 dX4_init_26 rfl (lv_at hl 0 rfl) ?_
  refine bw_new X (ci := 3) (CN := RX3) (T := TX3) (N := 2) (mc := 2) (ms := 1250) (fs := [.null, .null]) (wf := wTal) inTX3 tyX3 tyX3_ok kt_cl_RX4_23 kt_in_RX3 kt_ii_RX3 rfl (fun j hj => by rcases (show j = 0 ∨ j = 1 by omega) with rfl | rfl <;> rfl) dX4_init_27 dX4_init_30 ⟨Nat.le_of_ble_eq_true rfl, Nat.le_of_ble_eq_true rfl⟩ hP hD hS (fun q H' hp => bw_runIN X (nc_tal l) kt_co_yX3_init kt_ii_RX3 (by simp [NW]) kt_im_yX3_init rfl (by decide +kernel) ⟨Nat.le_of_ble_eq_true rfl, Nat.le_of_ble_eq_true rfl⟩ (Nat.le_of_ble_eq_true rfl) hl.1 dX4_init_31 ⟨Nat.le_of_ble_eq_true rfl, Nat.le_of_ble_eq_true rfl⟩ hp) (fun qt H locs hP hD hS => ?_)
  have hP : va_P D vwCl ((h0, .inr (4, [.ref (qs 0), .ref (qh 0), .null, .null, .int 0, .int 0])) :: (([] : va_W) ++ wSheet C qs ++ wHist C qh ++ wTal C qt)) H := hP
  have hD : va_D A ((h0, .inr (4, [.ref (qs 0), .ref (qh 0), .null, .null, .int 0, .int 0])) :: (([] : va_W) ++ wSheet C qs ++ wHist C qh ++ wTal C qt)) := hD
  refine bw_putF X (ci := 4) (CN := RX4) (T := TX4) (N := 6) inTX4 tyX4 tyX4_ok nmX4 rfl 2 (by decide) kt_fl_X4_26 rfl hin rfl (ty := .object RX3) (v := .ref (qt 0)) (by decide +kernel) rfl rfl (Nat.le_of_ble_eq_true rfl) dX4_init_34 hP hD hS (fun H locs hP hD hS => ?_)
  have hP : va_P D vwCl ((h0, .inr (4, [.ref (qs 0), .ref (qh 0), .ref (qt 0), .null, .int 0, .int 0])) :: (([] : va_W) ++ wSheet C qs ++ wHist C qh ++ wTal C qt)) H := hP
  have hD : va_D A ((h0, .inr (4, [.ref (qs 0), .ref (qh 0), .ref (qt 0), .null, .int 0, .int 0])) :: (([] : va_W) ++ wSheet C qs ++ wHist C qh ++ wTal C qt)) := hD
  refine lv_aload_n X.1 X.2.1 dX4_init_37 rfl (lv_at hl 0 rfl) ?_
  refine bw_new X (ci := 1) (CN := RX1) (T := TX1) (N := 4) (mc := 2) (ms := 32) (fs := [.null, .null, .int 0, .int 0]) (wf := wMen) inTX1 tyX1 tyX1_ok kt_cl_RX4_30 kt_in_RX1 kt_ii_RX1 rfl (fun j hj => by rcases (show j = 0 ∨ j = 1 ∨ j = 2 ∨ j = 3 by omega) with rfl | rfl | rfl | rfl <;> rfl) dX4_init_38 dX4_init_41 ⟨Nat.le_of_ble_eq_true rfl, Nat.le_of_ble_eq_true rfl⟩ hP hD hS (fun q H' hp => bw_runIN X (nc_men l) kt_co_yX1_init kt_ii_RX1 (by simp [NW]) kt_im_yX1_init rfl (by decide +kernel) ⟨Nat.le_of_ble_eq_true rfl, Nat.le_of_ble_eq_true rfl⟩ (Nat.le_of_ble_eq_true rfl) hl.1 dX4_init_42 ⟨Nat.le_of_ble_eq_true rfl, Nat.le_of_ble_eq_true rfl⟩ hp) (fun qm H locs hP hD hS => ?_)
  have hP : va_P D vwCl ((h0, .inr (4, [.ref (qs 0), .ref (qh 0), .ref (qt 0), .null, .int 0, .int 0])) :: (([] : va_W) ++ wSheet C qs ++ wHist C qh ++ wTal C qt ++ wMen C qm)) H := hP
  have hD : va_D A ((h0, .inr (4, [.ref (qs 0), .ref (qh 0), .ref (qt 0), .null, .int 0, .int 0])) :: (([] : va_W) ++ wSheet C qs ++ wHist C qh ++ wTal C qt ++ wMen C qm)) := hD
  refine bw_putF X (ci := 4) (CN := RX4) (T := TX4) (N := 6) inTX4 tyX4 tyX4_ok nmX4 rfl 3 (by decide) kt_fl_X4_33 rfl hin rfl (ty := .object RX1) (v := .ref (qm 0)) (by decide +kernel) rfl rfl (Nat.le_of_ble_eq_true rfl) dX4_init_45 hP hD hS (fun H locs hP hD hS => ?_)
  have hP : va_P D vwCl ((h0, .inr (4, [.ref (qs 0), .ref (qh 0), .ref (qt 0), .ref (qm 0), .int 0, .int 0])) :: (([] : va_W) ++ wSheet C qs ++ wHist C qh ++ wTal C qt ++ wMen C qm)) H := hP
  have hD : va_D A ((h0, .inr (4, [.ref (qs 0), .ref (qh 0), .ref (qt 0), .ref (qm 0), .int 0, .int 0])) :: (([] : va_W) ++ wSheet C qs ++ wHist C qh ++ wTal C qt ++ wMen C qm)) := hD
  refine lv_aload_n X.1 X.2.1 dX4_init_48 rfl (lv_at hl 0 rfl) ?_
  refine lv_iconst (v := 0) X.1 X.2.1 dX4_init_49 (by decide) ?_
  refine bw_put X (ci := 4) (CN := RX4) (T := TX4) (N := 6) inTX4 tyX4 tyX4_ok nmX4 rfl 4 (by decide) kt_fl_X4_37 rfl (ty := .boolean) (v := .int 0) (by decide +kernel) rfl rfl (Nat.le_of_ble_eq_true rfl) dX4_init_50 hP hD hS (fun H locs hP hD hS => ?_)
  have hP : va_P D vwCl ((h0, .inr (4, [.ref (qs 0), .ref (qh 0), .ref (qt 0), .ref (qm 0), .int 0, .int 0])) :: (([] : va_W) ++ wSheet C qs ++ wHist C qh ++ wTal C qt ++ wMen C qm)) H := hP
  have hD : va_D A ((h0, .inr (4, [.ref (qs 0), .ref (qh 0), .ref (qt 0), .ref (qm 0), .int 0, .int 0])) :: (([] : va_W) ++ wSheet C qs ++ wHist C qh ++ wTal C qt ++ wMen C qm)) := hD
  refine lv_aload_n X.1 X.2.1 dX4_init_53 rfl (lv_at hl 0 rfl) ?_
  refine lv_iconst (v := 0) X.1 X.2.1 dX4_init_54 (by decide) ?_
  refine bw_put X (ci := 4) (CN := RX4) (T := TX4) (N := 6) inTX4 tyX4 tyX4_ok nmX4 rfl 5 (by decide) kt_fl_X4_41 rfl (ty := .boolean) (v := .int 0) (by decide +kernel) rfl rfl (Nat.le_of_ble_eq_true rfl) dX4_init_55 hP hD hS (fun H locs hP hD hS => ?_)
  have hP : va_P D vwCl ((h0, .inr (4, [.ref (qs 0), .ref (qh 0), .ref (qt 0), .ref (qm 0), .int 0, .int 0])) :: (([] : va_W) ++ wSheet C qs ++ wHist C qh ++ wTal C qt ++ wMen C qm)) H := hP
  have hD : va_D A ((h0, .inr (4, [.ref (qs 0), .ref (qh 0), .ref (qt 0), .ref (qm 0), .int 0, .int 0])) :: (([] : va_W) ++ wSheet C qs ++ wHist C qh ++ wTal C qt ++ wMen C qm)) := hD
  obtain ⟨q, hq⟩ : ∃ q : Nat → Nat, q = fun k => if k = 0 then h0 else if k < 7 then qs (k - 1) else if k < 45 then qh (k - 7) else if k < 48 then qt (k - 45) else qm (k - 48) := ⟨_, rfl⟩
  have e1 : wSheet C (fun k => q (1 + k)) = wSheet C qs := by subst hq; rfl
  have e3 : wTal C (fun k => q (45 + k)) = wTal C qt := by subst hq; rfl
  have e4 : wMen C (fun k => q (48 + k)) = wMen C qm := by subst hq; rfl
  have e2r : rgF (fun k => q (7 + k)) = rgF qh := by
    subst hq
    funext j
    match j with
    | 0 => rfl
    | 1 => rfl
    | 2 => rfl
    | 3 => rfl
    | 4 => rfl
    | 5 => rfl
    | n + 6 => rfl
  have e2 : wHist C (fun k => q (7 + k)) = wHist C qh := by
    unfold wHist
    rw [e2r]
    generalize rgF qh = F
    subst hq
    rfl
  have e0 : q 0 = h0 ∧ q 1 = qs 0 ∧ q 7 = qh 0 ∧ q 45 = qt 0 ∧ q 48 = qm 0 := by subst hq; exact ⟨rfl, rfl, rfl, rfl, rfl⟩
  have ew : ((h0, .inr (4, [.ref (qs 0), .ref (qh 0), .ref (qt 0), .ref (qm 0), .int 0, .int 0])) :: (([] : va_W) ++ wSheet C qs ++ wHist C qh ++ wTal C qt ++ wMen C qm) : va_W) = wLF C q := by
    unfold wLF
    rw [e1, e2, e3, e4, e0.1, e0.2.1, e0.2.2.1, e0.2.2.2.1, e0.2.2.2.2]
    rfl
  have hP2 : va_P D vwCl (wLF C q) H := by rw [← ew]; exact hP
  have hD2 : va_D A (wLF C q) := by rw [← ew]; exact hD
  refine W.widen (k := 50) (n := 2151) (Nat.le_of_ble_eq_true rfl) (Nat.le_of_ble_eq_true rfl) ?_
  exact bw_ret X (wf := wLF) q hr hlocks hP2 hD2 e0.1 hS dX4_init_58
