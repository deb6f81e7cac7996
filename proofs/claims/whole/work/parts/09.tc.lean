/-! TABLES OF STEPS -/
def T_X5_isIn (E : Ex) (env : Nat → Mf) : List (Nat × Stq) := [(0, o_il 1 0),
  (1, o_il 2 1),
  (2, o_lt 14 5),
  (5, o_il 6 0),
  (6, o_il 7 2),
  (7, o_gt 14 10),
  (10, o_ic 11 (1)),
  (11, o_goto 15),
  (14, o_ic 15 (0)),
  (15, o_retZ)]
set_option maxRecDepth 100000 in
set_option maxHeartbeats 4000000 in
theorem ts_X5_isIn {p : Program} {l : Launch} {e : Env} {R : Room} {s : State} {m : MethodId} {args : Array Value} {below : List Frame} {meth : Method} {c : Code} {cells slots : Nat} {Q : State → Prop} {D : va_G} {C : CI3} {A : Nat → Prop} {ad : Nat → Nat} {E : Ex} {env : Nat → Mf} {d : Nat} (X : Cx p R s m args c cX5_isIn 3 RX5 D C A ad SH E) (hR : d ≤ R.frames ∧ 100 * d ≤ R.locals) (hcs : cells ≤ R.cells ∧ slots ≤ R.slots) : ∀ q ∈ T_X5_isIn E env, SS p l e R s m args below meth c cells slots Q D C A ad SH 3 cX5_isIn (some .boolean) q.1 q.2 := by
  unfold T_X5_isIn
  refine List.forall_mem_cons.mpr ⟨s_iload_n (pc := 0) X (i := 0) (by decide +kernel) rfl, ?_⟩
  refine List.forall_mem_cons.mpr ⟨s_iload_n (pc := 1) X (i := 1) (by decide +kernel) rfl, ?_⟩
  refine List.forall_mem_cons.mpr ⟨s_lt (pc := 2) X (off := 12) (by decide +kernel) (by decide), ?_⟩
  refine List.forall_mem_cons.mpr ⟨s_iload_n (pc := 5) X (i := 0) (by decide +kernel) rfl, ?_⟩
  refine List.forall_mem_cons.mpr ⟨s_iload_n (pc := 6) X (i := 2) (by decide +kernel) rfl, ?_⟩
  refine List.forall_mem_cons.mpr ⟨s_gt (pc := 7) X (off := 7) (by decide +kernel) (by decide), ?_⟩
  refine List.forall_mem_cons.mpr ⟨s_iconst (pc := 10) X (n := 1) (by decide +kernel) (by decide), ?_⟩
  refine List.forall_mem_cons.mpr ⟨s_goto (pc := 11) X (off := 4) (by decide +kernel) (by decide), ?_⟩
  refine List.forall_mem_cons.mpr ⟨s_iconst (pc := 14) X (n := 0) (by decide +kernel) (by decide), ?_⟩
  refine List.forall_mem_cons.mpr ⟨s_retZ (pc := 15) (by decide +kernel), ?_⟩
  exact fun _ h => absurd h List.not_mem_nil
def T_X5_columns (E : Ex) (env : Nat → Mf) : List (Nat × Stq) := [(0, o_al 1 0),
  (1, o_gR SH 4 5 0),
  (4, o_ic 7 (128)),
  (7, o_ia SH E 8),
  (8, o_ret)]
set_option maxRecDepth 100000 in
set_option maxHeartbeats 4000000 in
theorem ts_X5_columns {p : Program} {l : Launch} {e : Env} {R : Room} {s : State} {m : MethodId} {args : Array Value} {below : List Frame} {meth : Method} {c : Code} {cells slots : Nat} {Q : State → Prop} {D : va_G} {C : CI3} {A : Nat → Prop} {ad : Nat → Nat} {E : Ex} {env : Nat → Mf} {d : Nat} (X : Cx p R s m args c cX5_columns 1 RX5 D C A ad SH E) (hR : d ≤ R.frames ∧ 100 * d ≤ R.locals) (hcs : cells ≤ R.cells ∧ slots ≤ R.slots) : ∀ q ∈ T_X5_columns E env, SS p l e R s m args below meth c cells slots Q D C A ad SH 1 cX5_columns (some .int) q.1 q.2 := by
  unfold T_X5_columns
  refine List.forall_mem_cons.mpr ⟨s_aload_n (pc := 0) X (i := 0) (by decide +kernel) rfl, ?_⟩
  refine List.forall_mem_cons.mpr ⟨s_getR (pc := 1) X (idx := 7) (by decide +kernel) inTX5 rfl (by decide) lk_RX5_7 rfl, ?_⟩
  refine List.forall_mem_cons.mpr ⟨s_sipush (pc := 4) X (n := 128) (by decide +kernel) (by decide), ?_⟩
  refine List.forall_mem_cons.mpr ⟨s_iald (pc := 7) X (by decide +kernel), ?_⟩
  refine List.forall_mem_cons.mpr ⟨s_ret (pc := 8) rfl (by decide +kernel), ?_⟩
  exact fun _ h => absurd h List.not_mem_nil
def T_X5_get (E : Ex) (env : Nat → Mf) : List (Nat × Stq) := [(0, o_al 1 0),
  (1, o_gR SH 4 5 0),
  (4, o_ic 6 (8)),
  (6, o_il 7 1),
  (7, o_b2 8 (fun x y => x * y)),
  (8, o_il 9 2),
  (9, o_b2 10 (fun x y => x + y)),
  (10, o_ia SH E 11),
  (11, o_ret)]
set_option maxRecDepth 100000 in
set_option maxHeartbeats 4000000 in
theorem ts_X5_get {p : Program} {l : Launch} {e : Env} {R : Room} {s : State} {m : MethodId} {args : Array Value} {below : List Frame} {meth : Method} {c : Code} {cells slots : Nat} {Q : State → Prop} {D : va_G} {C : CI3} {A : Nat → Prop} {ad : Nat → Nat} {E : Ex} {env : Nat → Mf} {d : Nat} (X : Cx p R s m args c cX5_get 3 RX5 D C A ad SH E) (hR : d ≤ R.frames ∧ 100 * d ≤ R.locals) (hcs : cells ≤ R.cells ∧ slots ≤ R.slots) : ∀ q ∈ T_X5_get E env, SS p l e R s m args below meth c cells slots Q D C A ad SH 3 cX5_get (some .int) q.1 q.2 := by
  unfold T_X5_get
  refine List.forall_mem_cons.mpr ⟨s_aload_n (pc := 0) X (i := 0) (by decide +kernel) rfl, ?_⟩
  refine List.forall_mem_cons.mpr ⟨s_getR (pc := 1) X (idx := 7) (by decide +kernel) inTX5 rfl (by decide) lk_RX5_7 rfl, ?_⟩
  refine List.forall_mem_cons.mpr ⟨s_bipush (pc := 4) X (n := 8) (by decide +kernel) (by decide), ?_⟩
  refine List.forall_mem_cons.mpr ⟨s_iload_n (pc := 6) X (i := 1) (by decide +kernel) rfl, ?_⟩
  refine List.forall_mem_cons.mpr ⟨s_imul (pc := 7) X (by decide +kernel), ?_⟩
  refine List.forall_mem_cons.mpr ⟨s_iload_n (pc := 8) X (i := 2) (by decide +kernel) rfl, ?_⟩
  refine List.forall_mem_cons.mpr ⟨s_iadd (pc := 9) X (by decide +kernel), ?_⟩
  refine List.forall_mem_cons.mpr ⟨s_iald (pc := 10) X (by decide +kernel), ?_⟩
  refine List.forall_mem_cons.mpr ⟨s_ret (pc := 11) rfl (by decide +kernel), ?_⟩
  exact fun _ h => absurd h List.not_mem_nil
def T_X5_set (E : Ex) (env : Nat → Mf) : List (Nat × Stq) := [(0, o_al 1 0),
  (1, o_gR SH 4 5 0),
  (4, o_ic 6 (8)),
  (6, o_il 7 1),
  (7, o_b2 8 (fun x y => x * y)),
  (8, o_il 9 2),
  (9, o_b2 10 (fun x y => x + y)),
  (10, o_il 11 3),
  (11, o_is_ SH 12),
  (12, o_retV)]
set_option maxRecDepth 100000 in
set_option maxHeartbeats 4000000 in
theorem ts_X5_set {p : Program} {l : Launch} {e : Env} {R : Room} {s : State} {m : MethodId} {args : Array Value} {below : List Frame} {meth : Method} {c : Code} {cells slots : Nat} {Q : State → Prop} {D : va_G} {C : CI3} {A : Nat → Prop} {ad : Nat → Nat} {E : Ex} {env : Nat → Mf} {d : Nat} (X : Cx p R s m args c cX5_set 4 RX5 D C A ad SH E) (hR : d ≤ R.frames ∧ 100 * d ≤ R.locals) (hcs : cells ≤ R.cells ∧ slots ≤ R.slots) : ∀ q ∈ T_X5_set E env, SS p l e R s m args below meth c cells slots Q D C A ad SH 4 cX5_set (none) q.1 q.2 := by
  unfold T_X5_set
  refine List.forall_mem_cons.mpr ⟨s_aload_n (pc := 0) X (i := 0) (by decide +kernel) rfl, ?_⟩
  refine List.forall_mem_cons.mpr ⟨s_getR (pc := 1) X (idx := 7) (by decide +kernel) inTX5 rfl (by decide) lk_RX5_7 rfl, ?_⟩
  refine List.forall_mem_cons.mpr ⟨s_bipush (pc := 4) X (n := 8) (by decide +kernel) (by decide), ?_⟩
  refine List.forall_mem_cons.mpr ⟨s_iload_n (pc := 6) X (i := 1) (by decide +kernel) rfl, ?_⟩
  refine List.forall_mem_cons.mpr ⟨s_imul (pc := 7) X (by decide +kernel), ?_⟩
  refine List.forall_mem_cons.mpr ⟨s_iload_n (pc := 8) X (i := 2) (by decide +kernel) rfl, ?_⟩
  refine List.forall_mem_cons.mpr ⟨s_iadd (pc := 9) X (by decide +kernel), ?_⟩
  refine List.forall_mem_cons.mpr ⟨s_iload_n (pc := 10) X (i := 3) (by decide +kernel) rfl, ?_⟩
  refine List.forall_mem_cons.mpr ⟨s_iast (pc := 11) X (by decide +kernel), ?_⟩
  refine List.forall_mem_cons.mpr ⟨s_retV (pc := 12) (by decide +kernel), ?_⟩
  exact fun _ h => absurd h List.not_mem_nil
def T_X5_isRow (E : Ex) (env : Nat → Mf) : List (Nat × Stq) := [(0, o_il 1 1),
  (1, o_ic 2 (0)),
  (2, o_ic 4 (15)),
  (4, o_call env 7 64 3),
  (7, o_eq0 24 10),
  (10, o_al 11 0),
  (11, o_il 12 1),
  (12, o_ic 13 (0)),
  (13, o_callV SH env 16 66 2 5),
  (16, o_ic 17 (1)),
  (17, o_ne 24 20),
  (20, o_ic 21 (1)),
  (21, o_goto 25),
  (24, o_ic 25 (0)),
  (25, o_retZ)]
set_option maxRecDepth 100000 in
set_option maxHeartbeats 4000000 in
theorem ts_X5_isRow {p : Program} {l : Launch} {e : Env} {R : Room} {s : State} {m : MethodId} {args : Array Value} {below : List Frame} {meth : Method} {c : Code} {cells slots : Nat} {Q : State → Prop} {D : va_G} {C : CI3} {A : Nat → Prop} {ad : Nat → Nat} {E : Ex} {env : Nat → Mf} {d : Nat} (X : Cx p R s m args c cX5_isRow 2 RX5 D C A ad SH E) (hR : d ≤ R.frames ∧ 100 * d ≤ R.locals) (hcs : cells ≤ R.cells ∧ slots ≤ R.slots) {d_X5_isIn : Nat} (h_X5_isIn : CM l SH E yX5_isIn cX5_isIn 3 (some .boolean) d_X5_isIn (env 64)) (hd_X5_isIn : d_X5_isIn + 1 ≤ d) {d_X5_get : Nat} (h_X5_get : CM l SH E yX5_get cX5_get 3 (some .int) d_X5_get (env 66)) (hd_X5_get : d_X5_get + 1 ≤ d) : ∀ q ∈ T_X5_isRow E env, SS p l e R s m args below meth c cells slots Q D C A ad SH 2 cX5_isRow (some .boolean) q.1 q.2 := by
  unfold T_X5_isRow
  refine List.forall_mem_cons.mpr ⟨s_iload_n (pc := 0) X (i := 1) (by decide +kernel) rfl, ?_⟩
  refine List.forall_mem_cons.mpr ⟨s_iconst (pc := 1) X (n := 0) (by decide +kernel) (by decide), ?_⟩
  refine List.forall_mem_cons.mpr ⟨s_bipush (pc := 2) X (n := 15) (by decide +kernel) (by decide), ?_⟩
  refine List.forall_mem_cons.mpr ⟨s_callS (pc := 4) X (idx := 29) (by decide +kernel) h_X5_isIn lk_RX5_29 ls_X5_isIn li_RX5 lc_X5_isIn hy_X5_isIn ⟨Nat.le_trans hd_X5_isIn hR.1, Nat.le_trans (by have := hd_X5_isIn; omega) hR.2⟩ hcs, ?_⟩
  refine List.forall_mem_cons.mpr ⟨s_eq0 (pc := 7) X (off := 17) (by decide +kernel) (by decide), ?_⟩
  refine List.forall_mem_cons.mpr ⟨s_aload_n (pc := 10) X (i := 0) (by decide +kernel) rfl, ?_⟩
  refine List.forall_mem_cons.mpr ⟨s_iload_n (pc := 11) X (i := 1) (by decide +kernel) rfl, ?_⟩
  refine List.forall_mem_cons.mpr ⟨s_iconst (pc := 12) X (n := 0) (by decide +kernel) (by decide), ?_⟩
  refine List.forall_mem_cons.mpr ⟨s_callV (pc := 13) X (idx := 33) (by decide +kernel) h_X5_get rfl lk_RX5_33 ls_X5_get lz_X5_get li_RX5 lc_X5_get hv_X5_get ⟨Nat.le_trans hd_X5_get hR.1, Nat.le_trans (by have := hd_X5_get; omega) hR.2⟩ hcs, ?_⟩
  refine List.forall_mem_cons.mpr ⟨s_iconst (pc := 16) X (n := 1) (by decide +kernel) (by decide), ?_⟩
  refine List.forall_mem_cons.mpr ⟨s_ne (pc := 17) X (off := 7) (by decide +kernel) (by decide), ?_⟩
  refine List.forall_mem_cons.mpr ⟨s_iconst (pc := 20) X (n := 1) (by decide +kernel) (by decide), ?_⟩
  refine List.forall_mem_cons.mpr ⟨s_goto (pc := 21) X (off := 4) (by decide +kernel) (by decide), ?_⟩
  refine List.forall_mem_cons.mpr ⟨s_iconst (pc := 24) X (n := 0) (by decide +kernel) (by decide), ?_⟩
  refine List.forall_mem_cons.mpr ⟨s_retZ (pc := 25) (by decide +kernel), ?_⟩
  exact fun _ h => absurd h List.not_mem_nil
def T_X5_isColumn (E : Ex) (env : Nat → Mf) : List (Nat × Stq) := [(0, o_il 1 1),
  (1, o_ic 2 (0)),
  (2, o_al 3 0),
  (3, o_callV SH env 6 65 0 5),
  (6, o_ic 7 (1)),
  (7, o_b2 8 (fun x y => x - y)),
  (8, o_call env 11 64 3),
  (11, o_retZ)]
set_option maxRecDepth 100000 in
set_option maxHeartbeats 4000000 in
theorem ts_X5_isColumn {p : Program} {l : Launch} {e : Env} {R : Room} {s : State} {m : MethodId} {args : Array Value} {below : List Frame} {meth : Method} {c : Code} {cells slots : Nat} {Q : State → Prop} {D : va_G} {C : CI3} {A : Nat → Prop} {ad : Nat → Nat} {E : Ex} {env : Nat → Mf} {d : Nat} (X : Cx p R s m args c cX5_isColumn 2 RX5 D C A ad SH E) (hR : d ≤ R.frames ∧ 100 * d ≤ R.locals) (hcs : cells ≤ R.cells ∧ slots ≤ R.slots) {d_X5_columns : Nat} (h_X5_columns : CM l SH E yX5_columns cX5_columns 1 (some .int) d_X5_columns (env 65)) (hd_X5_columns : d_X5_columns + 1 ≤ d) {d_X5_isIn : Nat} (h_X5_isIn : CM l SH E yX5_isIn cX5_isIn 3 (some .boolean) d_X5_isIn (env 64)) (hd_X5_isIn : d_X5_isIn + 1 ≤ d) : ∀ q ∈ T_X5_isColumn E env, SS p l e R s m args below meth c cells slots Q D C A ad SH 2 cX5_isColumn (some .boolean) q.1 q.2 := by
  unfold T_X5_isColumn
  refine List.forall_mem_cons.mpr ⟨s_iload_n (pc := 0) X (i := 1) (by decide +kernel) rfl, ?_⟩
  refine List.forall_mem_cons.mpr ⟨s_iconst (pc := 1) X (n := 0) (by decide +kernel) (by decide), ?_⟩
  refine List.forall_mem_cons.mpr ⟨s_aload_n (pc := 2) X (i := 0) (by decide +kernel) rfl, ?_⟩
  refine List.forall_mem_cons.mpr ⟨s_callV (pc := 3) X (idx := 37) (by decide +kernel) h_X5_columns rfl lk_RX5_37 ls_X5_columns lz_X5_columns li_RX5 lc_X5_columns hv_X5_columns ⟨Nat.le_trans hd_X5_columns hR.1, Nat.le_trans (by have := hd_X5_columns; omega) hR.2⟩ hcs, ?_⟩
  refine List.forall_mem_cons.mpr ⟨s_iconst (pc := 6) X (n := 1) (by decide +kernel) (by decide), ?_⟩
  refine List.forall_mem_cons.mpr ⟨s_isub (pc := 7) X (by decide +kernel), ?_⟩
  refine List.forall_mem_cons.mpr ⟨s_callS (pc := 8) X (idx := 29) (by decide +kernel) h_X5_isIn lk_RX5_29 ls_X5_isIn li_RX5 lc_X5_isIn hy_X5_isIn ⟨Nat.le_trans hd_X5_isIn hR.1, Nat.le_trans (by have := hd_X5_isIn; omega) hR.2⟩ hcs, ?_⟩
  refine List.forall_mem_cons.mpr ⟨s_retZ (pc := 11) (by decide +kernel), ?_⟩
  exact fun _ h => absurd h List.not_mem_nil
def T_X5_keep_0 (E : Ex) (env : Nat → Mf) : List (Nat × Stq) := [(0, o_al 1 0),
  (1, o_gI SH 4 5 2),
  (4, o_ic 6 (6)),
  (6, o_ne 50 9),
  (9, o_ic 10 (0)),
  (10, o_is 11 1),
  (11, o_il 12 1),
  (12, o_ic 15 (665)),
  (15, o_ge 40 18),
  (18, o_al 19 0),
  (19, o_gR SH 22 5 1),
  (22, o_il 23 1),
  (23, o_al 24 0),
  (24, o_gR SH 27 5 1),
  (27, o_il 28 1),
  (28, o_ic 31 (133)),
  (31, o_b2 32 (fun x y => x + y)),
  (32, o_ia SH E 33),
  (33, o_is_ SH 34),
  (34, o_inc 37 1 (1)),
  (37, o_goto 11),
  (40, o_al 41 0),
  (41, o_dup 42),
  (42, o_gI SH 45 5 2),
  (45, o_ic 46 (1)),
  (46, o_b2 47 (fun x y => x - y)),
  (47, o_pI SH 50 5 2),
  (50, o_ic 51 (0)),
  (51, o_is 52 1),
  (52, o_il 53 1),
  (53, o_ic 56 (133)),
  (56, o_ge 86 59),
  (59, o_al 60 0),
  (60, o_gR SH 63 5 1),
  (63, o_ic 66 (133)),
  (66, o_al 67 0),
  (67, o_gI SH 70 5 2),
  (70, o_b2 71 (fun x y => x * y)),
  (71, o_il 72 1),
  (72, o_b2 73 (fun x y => x + y))]
set_option maxRecDepth 100000 in
set_option maxHeartbeats 4000000 in
theorem ts_X5_keep_0 {p : Program} {l : Launch} {e : Env} {R : Room} {s : State} {m : MethodId} {args : Array Value} {below : List Frame} {meth : Method} {c : Code} {cells slots : Nat} {Q : State → Prop} {D : va_G} {C : CI3} {A : Nat → Prop} {ad : Nat → Nat} {E : Ex} {env : Nat → Mf} {d : Nat} (X : Cx p R s m args c cX5_keep 2 RX5 D C A ad SH E) (hR : d ≤ R.frames ∧ 100 * d ≤ R.locals) (hcs : cells ≤ R.cells ∧ slots ≤ R.slots) : ∀ q ∈ T_X5_keep_0 E env, SS p l e R s m args below meth c cells slots Q D C A ad SH 2 cX5_keep (none) q.1 q.2 := by
  unfold T_X5_keep_0
  refine List.forall_mem_cons.mpr ⟨s_aload_n (pc := 0) X (i := 0) (by decide +kernel) rfl, ?_⟩
  refine List.forall_mem_cons.mpr ⟨s_getI (pc := 1) X (idx := 41) (by decide +kernel) inTX5 rfl (by decide) lk_RX5_41 rfl, ?_⟩
  refine List.forall_mem_cons.mpr ⟨s_bipush (pc := 4) X (n := 6) (by decide +kernel) (by decide), ?_⟩
  refine List.forall_mem_cons.mpr ⟨s_ne (pc := 6) X (off := 44) (by decide +kernel) (by decide), ?_⟩
  refine List.forall_mem_cons.mpr ⟨s_iconst (pc := 9) X (n := 0) (by decide +kernel) (by decide), ?_⟩
  refine List.forall_mem_cons.mpr ⟨s_istore_n (pc := 10) X (i := 1) (by decide +kernel) rfl (by decide), ?_⟩
  refine List.forall_mem_cons.mpr ⟨s_iload_n (pc := 11) X (i := 1) (by decide +kernel) rfl, ?_⟩
  refine List.forall_mem_cons.mpr ⟨s_sipush (pc := 12) X (n := 665) (by decide +kernel) (by decide), ?_⟩
  refine List.forall_mem_cons.mpr ⟨s_ge (pc := 15) X (off := 25) (by decide +kernel) (by decide), ?_⟩
  refine List.forall_mem_cons.mpr ⟨s_aload_n (pc := 18) X (i := 0) (by decide +kernel) rfl, ?_⟩
  refine List.forall_mem_cons.mpr ⟨s_getR (pc := 19) X (idx := 13) (by decide +kernel) inTX5 rfl (by decide) lk_RX5_13 rfl, ?_⟩
  refine List.forall_mem_cons.mpr ⟨s_iload_n (pc := 22) X (i := 1) (by decide +kernel) rfl, ?_⟩
  refine List.forall_mem_cons.mpr ⟨s_aload_n (pc := 23) X (i := 0) (by decide +kernel) rfl, ?_⟩
  refine List.forall_mem_cons.mpr ⟨s_getR (pc := 24) X (idx := 13) (by decide +kernel) inTX5 rfl (by decide) lk_RX5_13 rfl, ?_⟩
  refine List.forall_mem_cons.mpr ⟨s_iload_n (pc := 27) X (i := 1) (by decide +kernel) rfl, ?_⟩
  refine List.forall_mem_cons.mpr ⟨s_sipush (pc := 28) X (n := 133) (by decide +kernel) (by decide), ?_⟩
  refine List.forall_mem_cons.mpr ⟨s_iadd (pc := 31) X (by decide +kernel), ?_⟩
  refine List.forall_mem_cons.mpr ⟨s_iald (pc := 32) X (by decide +kernel), ?_⟩
  refine List.forall_mem_cons.mpr ⟨s_iast (pc := 33) X (by decide +kernel), ?_⟩
  refine List.forall_mem_cons.mpr ⟨s_iinc (pc := 34) X (n := 1) (by decide +kernel) (by decide) (by decide), ?_⟩
  refine List.forall_mem_cons.mpr ⟨s_goto (pc := 37) X (off := -26) (by decide +kernel) (by decide), ?_⟩
  refine List.forall_mem_cons.mpr ⟨s_aload_n (pc := 40) X (i := 0) (by decide +kernel) rfl, ?_⟩
  refine List.forall_mem_cons.mpr ⟨s_dup (pc := 41) X (by decide +kernel), ?_⟩
  refine List.forall_mem_cons.mpr ⟨s_getI (pc := 42) X (idx := 41) (by decide +kernel) inTX5 rfl (by decide) lk_RX5_41 rfl, ?_⟩
  refine List.forall_mem_cons.mpr ⟨s_iconst (pc := 45) X (n := 1) (by decide +kernel) (by decide), ?_⟩
  refine List.forall_mem_cons.mpr ⟨s_isub (pc := 46) X (by decide +kernel), ?_⟩
  refine List.forall_mem_cons.mpr ⟨s_putI (pc := 47) X (idx := 41) (by decide +kernel) inTX5 tyX5 tyX5_ok nmX5 rfl (by decide) lk_RX5_41 rfl rfl (by decide +kernel), ?_⟩
  refine List.forall_mem_cons.mpr ⟨s_iconst (pc := 50) X (n := 0) (by decide +kernel) (by decide), ?_⟩
  refine List.forall_mem_cons.mpr ⟨s_istore_n (pc := 51) X (i := 1) (by decide +kernel) rfl (by decide), ?_⟩
  refine List.forall_mem_cons.mpr ⟨s_iload_n (pc := 52) X (i := 1) (by decide +kernel) rfl, ?_⟩
  refine List.forall_mem_cons.mpr ⟨s_sipush (pc := 53) X (n := 133) (by decide +kernel) (by decide), ?_⟩
  refine List.forall_mem_cons.mpr ⟨s_ge (pc := 56) X (off := 30) (by decide +kernel) (by decide), ?_⟩
  refine List.forall_mem_cons.mpr ⟨s_aload_n (pc := 59) X (i := 0) (by decide +kernel) rfl, ?_⟩
  refine List.forall_mem_cons.mpr ⟨s_getR (pc := 60) X (idx := 13) (by decide +kernel) inTX5 rfl (by decide) lk_RX5_13 rfl, ?_⟩
  refine List.forall_mem_cons.mpr ⟨s_sipush (pc := 63) X (n := 133) (by decide +kernel) (by decide), ?_⟩
  refine List.forall_mem_cons.mpr ⟨s_aload_n (pc := 66) X (i := 0) (by decide +kernel) rfl, ?_⟩
  refine List.forall_mem_cons.mpr ⟨s_getI (pc := 67) X (idx := 41) (by decide +kernel) inTX5 rfl (by decide) lk_RX5_41 rfl, ?_⟩
  refine List.forall_mem_cons.mpr ⟨s_imul (pc := 70) X (by decide +kernel), ?_⟩
  refine List.forall_mem_cons.mpr ⟨s_iload_n (pc := 71) X (i := 1) (by decide +kernel) rfl, ?_⟩
  refine List.forall_mem_cons.mpr ⟨s_iadd (pc := 72) X (by decide +kernel), ?_⟩
  exact fun _ h => absurd h List.not_mem_nil
def T_X5_keep_1 (E : Ex) (env : Nat → Mf) : List (Nat × Stq) := [(73, o_al 74 0),
  (74, o_gR SH 77 5 0),
  (77, o_il 78 1),
  (78, o_ia SH E 79),
  (79, o_is_ SH 80),
  (80, o_inc 83 1 (1)),
  (83, o_goto 52),
  (86, o_al 87 0),
  (87, o_dup 88),
  (88, o_gI SH 91 5 2),
  (91, o_ic 92 (1)),
  (92, o_b2 93 (fun x y => x + y)),
  (93, o_pI SH 96 5 2),
  (96, o_retV)]
set_option maxRecDepth 100000 in
set_option maxHeartbeats 4000000 in
theorem ts_X5_keep_1 {p : Program} {l : Launch} {e : Env} {R : Room} {s : State} {m : MethodId} {args : Array Value} {below : List Frame} {meth : Method} {c : Code} {cells slots : Nat} {Q : State → Prop} {D : va_G} {C : CI3} {A : Nat → Prop} {ad : Nat → Nat} {E : Ex} {env : Nat → Mf} {d : Nat} (X : Cx p R s m args c cX5_keep 2 RX5 D C A ad SH E) (hR : d ≤ R.frames ∧ 100 * d ≤ R.locals) (hcs : cells ≤ R.cells ∧ slots ≤ R.slots) : ∀ q ∈ T_X5_keep_1 E env, SS p l e R s m args below meth c cells slots Q D C A ad SH 2 cX5_keep (none) q.1 q.2 := by
  unfold T_X5_keep_1
  refine List.forall_mem_cons.mpr ⟨s_aload_n (pc := 73) X (i := 0) (by decide +kernel) rfl, ?_⟩
  refine List.forall_mem_cons.mpr ⟨s_getR (pc := 74) X (idx := 7) (by decide +kernel) inTX5 rfl (by decide) lk_RX5_7 rfl, ?_⟩
  refine List.forall_mem_cons.mpr ⟨s_iload_n (pc := 77) X (i := 1) (by decide +kernel) rfl, ?_⟩
  refine List.forall_mem_cons.mpr ⟨s_iald (pc := 78) X (by decide +kernel), ?_⟩
  refine List.forall_mem_cons.mpr ⟨s_iast (pc := 79) X (by decide +kernel), ?_⟩
  refine List.forall_mem_cons.mpr ⟨s_iinc (pc := 80) X (n := 1) (by decide +kernel) (by decide) (by decide), ?_⟩
  refine List.forall_mem_cons.mpr ⟨s_goto (pc := 83) X (off := -31) (by decide +kernel) (by decide), ?_⟩
  refine List.forall_mem_cons.mpr ⟨s_aload_n (pc := 86) X (i := 0) (by decide +kernel) rfl, ?_⟩
  refine List.forall_mem_cons.mpr ⟨s_dup (pc := 87) X (by decide +kernel), ?_⟩
  refine List.forall_mem_cons.mpr ⟨s_getI (pc := 88) X (idx := 41) (by decide +kernel) inTX5 rfl (by decide) lk_RX5_41 rfl, ?_⟩
  refine List.forall_mem_cons.mpr ⟨s_iconst (pc := 91) X (n := 1) (by decide +kernel) (by decide), ?_⟩
  refine List.forall_mem_cons.mpr ⟨s_iadd (pc := 92) X (by decide +kernel), ?_⟩
  refine List.forall_mem_cons.mpr ⟨s_putI (pc := 93) X (idx := 41) (by decide +kernel) inTX5 tyX5 tyX5_ok nmX5 rfl (by decide) lk_RX5_41 rfl rfl (by decide +kernel), ?_⟩
  refine List.forall_mem_cons.mpr ⟨s_retV (pc := 96) (by decide +kernel), ?_⟩
  exact fun _ h => absurd h List.not_mem_nil
def T_X5_keep (E : Ex) (env : Nat → Mf) : List (Nat × Stq) := T_X5_keep_0 E env ++ (T_X5_keep_1 E env)
theorem ts_X5_keep {p : Program} {l : Launch} {e : Env} {R : Room} {s : State} {m : MethodId} {args : Array Value} {below : List Frame} {meth : Method} {c : Code} {cells slots : Nat} {Q : State → Prop} {D : va_G} {C : CI3} {A : Nat → Prop} {ad : Nat → Nat} {E : Ex} {env : Nat → Mf} {d : Nat} (X : Cx p R s m args c cX5_keep 2 RX5 D C A ad SH E) (hR : d ≤ R.frames ∧ 100 * d ≤ R.locals) (hcs : cells ≤ R.cells ∧ slots ≤ R.slots) : ∀ q ∈ T_X5_keep E env, SS p l e R s m args below meth c cells slots Q D C A ad SH 2 cX5_keep (none) q.1 q.2 := List.forall_mem_append.mpr ⟨ts_X5_keep_0 X hR hcs , ts_X5_keep_1 X hR hcs ⟩
def T_X5_undo (E : Ex) (env : Nat → Mf) : List (Nat × Stq) := [(0, o_al 1 0),
  (1, o_gI SH 4 5 2),
  (4, o_ne0 9 7),
  (7, o_ic 8 (0)),
  (8, o_retZ),
  (9, o_al 10 0),
  (10, o_dup 11),
  (11, o_gI SH 14 5 2),
  (14, o_ic 15 (1)),
  (15, o_b2 16 (fun x y => x - y)),
  (16, o_pI SH 19 5 2),
  (19, o_ic 20 (0)),
  (20, o_is 21 1),
  (21, o_il 22 1),
  (22, o_ic 25 (133)),
  (25, o_ge 55 28),
  (28, o_al 29 0),
  (29, o_gR SH 32 5 0),
  (32, o_il 33 1),
  (33, o_al 34 0),
  (34, o_gR SH 37 5 1),
  (37, o_ic 40 (133)),
  (40, o_al 41 0),
  (41, o_gI SH 44 5 2),
  (44, o_b2 45 (fun x y => x * y)),
  (45, o_il 46 1),
  (46, o_b2 47 (fun x y => x + y)),
  (47, o_ia SH E 48),
  (48, o_is_ SH 49),
  (49, o_inc 52 1 (1)),
  (52, o_goto 21),
  (55, o_ic 56 (1)),
  (56, o_retZ)]
set_option maxRecDepth 100000 in
set_option maxHeartbeats 4000000 in
theorem ts_X5_undo {p : Program} {l : Launch} {e : Env} {R : Room} {s : State} {m : MethodId} {args : Array Value} {below : List Frame} {meth : Method} {c : Code} {cells slots : Nat} {Q : State → Prop} {D : va_G} {C : CI3} {A : Nat → Prop} {ad : Nat → Nat} {E : Ex} {env : Nat → Mf} {d : Nat} (X : Cx p R s m args c cX5_undo 2 RX5 D C A ad SH E) (hR : d ≤ R.frames ∧ 100 * d ≤ R.locals) (hcs : cells ≤ R.cells ∧ slots ≤ R.slots) : ∀ q ∈ T_X5_undo E env, SS p l e R s m args below meth c cells slots Q D C A ad SH 2 cX5_undo (some .boolean) q.1 q.2 := by
  unfold T_X5_undo
  refine List.forall_mem_cons.mpr ⟨s_aload_n (pc := 0) X (i := 0) (by decide +kernel) rfl, ?_⟩
  refine List.forall_mem_cons.mpr ⟨s_getI (pc := 1) X (idx := 41) (by decide +kernel) inTX5 rfl (by decide) lk_RX5_41 rfl, ?_⟩
  refine List.forall_mem_cons.mpr ⟨s_ne0 (pc := 4) X (off := 5) (by decide +kernel) (by decide), ?_⟩
  refine List.forall_mem_cons.mpr ⟨s_iconst (pc := 7) X (n := 0) (by decide +kernel) (by decide), ?_⟩
  refine List.forall_mem_cons.mpr ⟨s_retZ (pc := 8) (by decide +kernel), ?_⟩
  refine List.forall_mem_cons.mpr ⟨s_aload_n (pc := 9) X (i := 0) (by decide +kernel) rfl, ?_⟩
  refine List.forall_mem_cons.mpr ⟨s_dup (pc := 10) X (by decide +kernel), ?_⟩
  refine List.forall_mem_cons.mpr ⟨s_getI (pc := 11) X (idx := 41) (by decide +kernel) inTX5 rfl (by decide) lk_RX5_41 rfl, ?_⟩
  refine List.forall_mem_cons.mpr ⟨s_iconst (pc := 14) X (n := 1) (by decide +kernel) (by decide), ?_⟩
  refine List.forall_mem_cons.mpr ⟨s_isub (pc := 15) X (by decide +kernel), ?_⟩
  refine List.forall_mem_cons.mpr ⟨s_putI (pc := 16) X (idx := 41) (by decide +kernel) inTX5 tyX5 tyX5_ok nmX5 rfl (by decide) lk_RX5_41 rfl rfl (by decide +kernel), ?_⟩
  refine List.forall_mem_cons.mpr ⟨s_iconst (pc := 19) X (n := 0) (by decide +kernel) (by decide), ?_⟩
  refine List.forall_mem_cons.mpr ⟨s_istore_n (pc := 20) X (i := 1) (by decide +kernel) rfl (by decide), ?_⟩
  refine List.forall_mem_cons.mpr ⟨s_iload_n (pc := 21) X (i := 1) (by decide +kernel) rfl, ?_⟩
  refine List.forall_mem_cons.mpr ⟨s_sipush (pc := 22) X (n := 133) (by decide +kernel) (by decide), ?_⟩
  refine List.forall_mem_cons.mpr ⟨s_ge (pc := 25) X (off := 30) (by decide +kernel) (by decide), ?_⟩
  refine List.forall_mem_cons.mpr ⟨s_aload_n (pc := 28) X (i := 0) (by decide +kernel) rfl, ?_⟩
  refine List.forall_mem_cons.mpr ⟨s_getR (pc := 29) X (idx := 7) (by decide +kernel) inTX5 rfl (by decide) lk_RX5_7 rfl, ?_⟩
  refine List.forall_mem_cons.mpr ⟨s_iload_n (pc := 32) X (i := 1) (by decide +kernel) rfl, ?_⟩
  refine List.forall_mem_cons.mpr ⟨s_aload_n (pc := 33) X (i := 0) (by decide +kernel) rfl, ?_⟩
  refine List.forall_mem_cons.mpr ⟨s_getR (pc := 34) X (idx := 13) (by decide +kernel) inTX5 rfl (by decide) lk_RX5_13 rfl, ?_⟩
  refine List.forall_mem_cons.mpr ⟨s_sipush (pc := 37) X (n := 133) (by decide +kernel) (by decide), ?_⟩
  refine List.forall_mem_cons.mpr ⟨s_aload_n (pc := 40) X (i := 0) (by decide +kernel) rfl, ?_⟩
  refine List.forall_mem_cons.mpr ⟨s_getI (pc := 41) X (idx := 41) (by decide +kernel) inTX5 rfl (by decide) lk_RX5_41 rfl, ?_⟩
  refine List.forall_mem_cons.mpr ⟨s_imul (pc := 44) X (by decide +kernel), ?_⟩
  refine List.forall_mem_cons.mpr ⟨s_iload_n (pc := 45) X (i := 1) (by decide +kernel) rfl, ?_⟩
  refine List.forall_mem_cons.mpr ⟨s_iadd (pc := 46) X (by decide +kernel), ?_⟩
  refine List.forall_mem_cons.mpr ⟨s_iald (pc := 47) X (by decide +kernel), ?_⟩
  refine List.forall_mem_cons.mpr ⟨s_iast (pc := 48) X (by decide +kernel), ?_⟩
  refine List.forall_mem_cons.mpr ⟨s_iinc (pc := 49) X (n := 1) (by decide +kernel) (by decide) (by decide), ?_⟩
  refine List.forall_mem_cons.mpr ⟨s_goto (pc := 52) X (off := -31) (by decide +kernel) (by decide), ?_⟩
  refine List.forall_mem_cons.mpr ⟨s_iconst (pc := 55) X (n := 1) (by decide +kernel) (by decide), ?_⟩
  refine List.forall_mem_cons.mpr ⟨s_retZ (pc := 56) (by decide +kernel), ?_⟩
  exact fun _ h => absurd h List.not_mem_nil
def T_X5_table (E : Ex) (env : Nat → Mf) : List (Nat × Stq) := [(0, o_il 1 1),
  (1, o_ic 2 (1)),
  (2, o_ic 3 (4)),
  (3, o_call env 6 64 3),
  (6, o_ne0 11 9),
  (9, o_ic 10 (0)),
  (10, o_retZ),
  (11, o_al 12 0),
  (12, o_callV SH env 15 70 0 5),
  (15, o_ic 16 (0)),
  (16, o_is 17 2),
  (17, o_il 18 2),
  (18, o_ic 21 (133)),
  (21, o_ge 37 24),
  (24, o_al 25 0),
  (25, o_gR SH 28 5 0),
  (28, o_il 29 2),
  (29, o_ic 30 (0)),
  (30, o_is_ SH 31),
  (31, o_inc 34 2 (1)),
  (34, o_goto 17),
  (37, o_al 38 0),
  (38, o_gR SH 41 5 0),
  (41, o_ic 44 (128)),
  (44, o_il 45 1),
  (45, o_is_ SH 46),
  (46, o_ic 47 (1)),
  (47, o_retZ)]
set_option maxRecDepth 100000 in
set_option maxHeartbeats 4000000 in
theorem ts_X5_table {p : Program} {l : Launch} {e : Env} {R : Room} {s : State} {m : MethodId} {args : Array Value} {below : List Frame} {meth : Method} {c : Code} {cells slots : Nat} {Q : State → Prop} {D : va_G} {C : CI3} {A : Nat → Prop} {ad : Nat → Nat} {E : Ex} {env : Nat → Mf} {d : Nat} (X : Cx p R s m args c cX5_table 3 RX5 D C A ad SH E) (hR : d ≤ R.frames ∧ 100 * d ≤ R.locals) (hcs : cells ≤ R.cells ∧ slots ≤ R.slots) {d_X5_isIn : Nat} (h_X5_isIn : CM l SH E yX5_isIn cX5_isIn 3 (some .boolean) d_X5_isIn (env 64)) (hd_X5_isIn : d_X5_isIn + 1 ≤ d) {d_X5_keep : Nat} (h_X5_keep : CM l SH E yX5_keep cX5_keep 2 (none) d_X5_keep (env 70)) (hd_X5_keep : d_X5_keep + 1 ≤ d) : ∀ q ∈ T_X5_table E env, SS p l e R s m args below meth c cells slots Q D C A ad SH 3 cX5_table (some .boolean) q.1 q.2 := by
  unfold T_X5_table
  refine List.forall_mem_cons.mpr ⟨s_iload_n (pc := 0) X (i := 1) (by decide +kernel) rfl, ?_⟩
  refine List.forall_mem_cons.mpr ⟨s_iconst (pc := 1) X (n := 1) (by decide +kernel) (by decide), ?_⟩
  refine List.forall_mem_cons.mpr ⟨s_iconst (pc := 2) X (n := 4) (by decide +kernel) (by decide), ?_⟩
  refine List.forall_mem_cons.mpr ⟨s_callS (pc := 3) X (idx := 29) (by decide +kernel) h_X5_isIn lk_RX5_29 ls_X5_isIn li_RX5 lc_X5_isIn hy_X5_isIn ⟨Nat.le_trans hd_X5_isIn hR.1, Nat.le_trans (by have := hd_X5_isIn; omega) hR.2⟩ hcs, ?_⟩
  refine List.forall_mem_cons.mpr ⟨s_ne0 (pc := 6) X (off := 5) (by decide +kernel) (by decide), ?_⟩
  refine List.forall_mem_cons.mpr ⟨s_iconst (pc := 9) X (n := 0) (by decide +kernel) (by decide), ?_⟩
  refine List.forall_mem_cons.mpr ⟨s_retZ (pc := 10) (by decide +kernel), ?_⟩
  refine List.forall_mem_cons.mpr ⟨s_aload_n (pc := 11) X (i := 0) (by decide +kernel) rfl, ?_⟩
  refine List.forall_mem_cons.mpr ⟨s_callV (pc := 12) X (idx := 45) (by decide +kernel) h_X5_keep rfl lk_RX5_45 ls_X5_keep lz_X5_keep li_RX5 lc_X5_keep hv_X5_keep ⟨Nat.le_trans hd_X5_keep hR.1, Nat.le_trans (by have := hd_X5_keep; omega) hR.2⟩ hcs, ?_⟩
  refine List.forall_mem_cons.mpr ⟨s_iconst (pc := 15) X (n := 0) (by decide +kernel) (by decide), ?_⟩
  refine List.forall_mem_cons.mpr ⟨s_istore_n (pc := 16) X (i := 2) (by decide +kernel) rfl (by decide), ?_⟩
  refine List.forall_mem_cons.mpr ⟨s_iload_n (pc := 17) X (i := 2) (by decide +kernel) rfl, ?_⟩
  refine List.forall_mem_cons.mpr ⟨s_sipush (pc := 18) X (n := 133) (by decide +kernel) (by decide), ?_⟩
  refine List.forall_mem_cons.mpr ⟨s_ge (pc := 21) X (off := 16) (by decide +kernel) (by decide), ?_⟩
  refine List.forall_mem_cons.mpr ⟨s_aload_n (pc := 24) X (i := 0) (by decide +kernel) rfl, ?_⟩
  refine List.forall_mem_cons.mpr ⟨s_getR (pc := 25) X (idx := 7) (by decide +kernel) inTX5 rfl (by decide) lk_RX5_7 rfl, ?_⟩
  refine List.forall_mem_cons.mpr ⟨s_iload_n (pc := 28) X (i := 2) (by decide +kernel) rfl, ?_⟩
  refine List.forall_mem_cons.mpr ⟨s_iconst (pc := 29) X (n := 0) (by decide +kernel) (by decide), ?_⟩
  refine List.forall_mem_cons.mpr ⟨s_iast (pc := 30) X (by decide +kernel), ?_⟩
  refine List.forall_mem_cons.mpr ⟨s_iinc (pc := 31) X (n := 1) (by decide +kernel) (by decide) (by decide), ?_⟩
  refine List.forall_mem_cons.mpr ⟨s_goto (pc := 34) X (off := -17) (by decide +kernel) (by decide), ?_⟩
  refine List.forall_mem_cons.mpr ⟨s_aload_n (pc := 37) X (i := 0) (by decide +kernel) rfl, ?_⟩
  refine List.forall_mem_cons.mpr ⟨s_getR (pc := 38) X (idx := 7) (by decide +kernel) inTX5 rfl (by decide) lk_RX5_7 rfl, ?_⟩
  refine List.forall_mem_cons.mpr ⟨s_sipush (pc := 41) X (n := 128) (by decide +kernel) (by decide), ?_⟩
  refine List.forall_mem_cons.mpr ⟨s_iload_n (pc := 44) X (i := 1) (by decide +kernel) rfl, ?_⟩
  refine List.forall_mem_cons.mpr ⟨s_iast (pc := 45) X (by decide +kernel), ?_⟩
  refine List.forall_mem_cons.mpr ⟨s_iconst (pc := 46) X (n := 1) (by decide +kernel) (by decide), ?_⟩
  refine List.forall_mem_cons.mpr ⟨s_retZ (pc := 47) (by decide +kernel), ?_⟩
  exact fun _ h => absurd h List.not_mem_nil
def T_X5_isNumber (E : Ex) (env : Nat → Mf) : List (Nat × Stq) := [(0, o_il 1 1),
  (1, o_ic 3 (-99)),
  (3, o_ic 5 (99)),
  (5, o_call env 8 64 3),
  (8, o_ne0 22 11),
  (11, o_il 12 0),
  (12, o_ic 13 (4)),
  (13, o_ne 26 16),
  (16, o_il 17 1),
  (17, o_ic 19 (100)),
  (19, o_ne 26 22),
  (22, o_ic 23 (1)),
  (23, o_goto 27),
  (26, o_ic 27 (0)),
  (27, o_retZ)]
set_option maxRecDepth 100000 in
set_option maxHeartbeats 4000000 in
theorem ts_X5_isNumber {p : Program} {l : Launch} {e : Env} {R : Room} {s : State} {m : MethodId} {args : Array Value} {below : List Frame} {meth : Method} {c : Code} {cells slots : Nat} {Q : State → Prop} {D : va_G} {C : CI3} {A : Nat → Prop} {ad : Nat → Nat} {E : Ex} {env : Nat → Mf} {d : Nat} (X : Cx p R s m args c cX5_isNumber 2 RX5 D C A ad SH E) (hR : d ≤ R.frames ∧ 100 * d ≤ R.locals) (hcs : cells ≤ R.cells ∧ slots ≤ R.slots) {d_X5_isIn : Nat} (h_X5_isIn : CM l SH E yX5_isIn cX5_isIn 3 (some .boolean) d_X5_isIn (env 64)) (hd_X5_isIn : d_X5_isIn + 1 ≤ d) : ∀ q ∈ T_X5_isNumber E env, SS p l e R s m args below meth c cells slots Q D C A ad SH 2 cX5_isNumber (some .boolean) q.1 q.2 := by
  unfold T_X5_isNumber
  refine List.forall_mem_cons.mpr ⟨s_iload_n (pc := 0) X (i := 1) (by decide +kernel) rfl, ?_⟩
  refine List.forall_mem_cons.mpr ⟨s_bipush (pc := 1) X (n := -99) (by decide +kernel) (by decide), ?_⟩
  refine List.forall_mem_cons.mpr ⟨s_bipush (pc := 3) X (n := 99) (by decide +kernel) (by decide), ?_⟩
  refine List.forall_mem_cons.mpr ⟨s_callS (pc := 5) X (idx := 29) (by decide +kernel) h_X5_isIn lk_RX5_29 ls_X5_isIn li_RX5 lc_X5_isIn hy_X5_isIn ⟨Nat.le_trans hd_X5_isIn hR.1, Nat.le_trans (by have := hd_X5_isIn; omega) hR.2⟩ hcs, ?_⟩
  refine List.forall_mem_cons.mpr ⟨s_ne0 (pc := 8) X (off := 14) (by decide +kernel) (by decide), ?_⟩
  refine List.forall_mem_cons.mpr ⟨s_iload_n (pc := 11) X (i := 0) (by decide +kernel) rfl, ?_⟩
  refine List.forall_mem_cons.mpr ⟨s_iconst (pc := 12) X (n := 4) (by decide +kernel) (by decide), ?_⟩
  refine List.forall_mem_cons.mpr ⟨s_ne (pc := 13) X (off := 13) (by decide +kernel) (by decide), ?_⟩
  refine List.forall_mem_cons.mpr ⟨s_iload_n (pc := 16) X (i := 1) (by decide +kernel) rfl, ?_⟩
  refine List.forall_mem_cons.mpr ⟨s_bipush (pc := 17) X (n := 100) (by decide +kernel) (by decide), ?_⟩
  refine List.forall_mem_cons.mpr ⟨s_ne (pc := 19) X (off := 7) (by decide +kernel) (by decide), ?_⟩
  refine List.forall_mem_cons.mpr ⟨s_iconst (pc := 22) X (n := 1) (by decide +kernel) (by decide), ?_⟩
  refine List.forall_mem_cons.mpr ⟨s_goto (pc := 23) X (off := 4) (by decide +kernel) (by decide), ?_⟩
  refine List.forall_mem_cons.mpr ⟨s_iconst (pc := 26) X (n := 0) (by decide +kernel) (by decide), ?_⟩
  refine List.forall_mem_cons.mpr ⟨s_retZ (pc := 27) (by decide +kernel), ?_⟩
  exact fun _ h => absurd h List.not_mem_nil
def T_X5_put_0 (E : Ex) (env : Nat → Mf) : List (Nat × Stq) := [(0, o_il 1 1),
  (1, o_ic 2 (0)),
  (2, o_ic 4 (15)),
  (4, o_call env 7 64 3),
  (7, o_eq0 28 10),
  (10, o_il 11 2),
  (11, o_ic 12 (0)),
  (12, o_ic 13 (4)),
  (13, o_call env 16 64 3),
  (16, o_eq0 28 19),
  (19, o_il 20 3),
  (20, o_ic 21 (0)),
  (21, o_ic 22 (4)),
  (22, o_call env 25 64 3),
  (25, o_ne0 30 28),
  (28, o_ic 29 (0)),
  (29, o_retZ),
  (30, o_il 31 3),
  (31, o_ic 32 (1)),
  (32, o_lt 44 35),
  (35, o_il 36 2),
  (36, o_il 38 4),
  (38, o_call env 41 73 2),
  (41, o_eq0 90 44),
  (44, o_il 45 3),
  (45, o_ic 46 (2)),
  (46, o_lt 58 49),
  (49, o_il 50 2),
  (50, o_il 52 5),
  (52, o_call env 55 73 2),
  (55, o_eq0 90 58),
  (58, o_il 59 3),
  (59, o_ic 60 (3)),
  (60, o_lt 72 63),
  (63, o_il 64 2),
  (64, o_il 66 6),
  (66, o_call env 69 73 2),
  (69, o_eq0 90 72),
  (72, o_il 73 3),
  (73, o_ic 74 (4))]
set_option maxRecDepth 100000 in
set_option maxHeartbeats 4000000 in
theorem ts_X5_put_0 {p : Program} {l : Launch} {e : Env} {R : Room} {s : State} {m : MethodId} {args : Array Value} {below : List Frame} {meth : Method} {c : Code} {cells slots : Nat} {Q : State → Prop} {D : va_G} {C : CI3} {A : Nat → Prop} {ad : Nat → Nat} {E : Ex} {env : Nat → Mf} {d : Nat} (X : Cx p R s m args c cX5_put 11 RX5 D C A ad SH E) (hR : d ≤ R.frames ∧ 100 * d ≤ R.locals) (hcs : cells ≤ R.cells ∧ slots ≤ R.slots) {d_X5_isIn : Nat} (h_X5_isIn : CM l SH E yX5_isIn cX5_isIn 3 (some .boolean) d_X5_isIn (env 64)) (hd_X5_isIn : d_X5_isIn + 1 ≤ d) {d_X5_isNumber : Nat} (h_X5_isNumber : CM l SH E yX5_isNumber cX5_isNumber 2 (some .boolean) d_X5_isNumber (env 73)) (hd_X5_isNumber : d_X5_isNumber + 1 ≤ d) {d_X5_keep : Nat} (h_X5_keep : CM l SH E yX5_keep cX5_keep 2 (none) d_X5_keep (env 70)) (hd_X5_keep : d_X5_keep + 1 ≤ d) {d_X5_set : Nat} (h_X5_set : CM l SH E yX5_set cX5_set 4 (none) d_X5_set (env 67)) (hd_X5_set : d_X5_set + 1 ≤ d) : ∀ q ∈ T_X5_put_0 E env, SS p l e R s m args below meth c cells slots Q D C A ad SH 11 cX5_put (some .boolean) q.1 q.2 := by
  unfold T_X5_put_0
  refine List.forall_mem_cons.mpr ⟨s_iload_n (pc := 0) X (i := 1) (by decide +kernel) rfl, ?_⟩
  refine List.forall_mem_cons.mpr ⟨s_iconst (pc := 1) X (n := 0) (by decide +kernel) (by decide), ?_⟩
  refine List.forall_mem_cons.mpr ⟨s_bipush (pc := 2) X (n := 15) (by decide +kernel) (by decide), ?_⟩
  refine List.forall_mem_cons.mpr ⟨s_callS (pc := 4) X (idx := 29) (by decide +kernel) h_X5_isIn lk_RX5_29 ls_X5_isIn li_RX5 lc_X5_isIn hy_X5_isIn ⟨Nat.le_trans hd_X5_isIn hR.1, Nat.le_trans (by have := hd_X5_isIn; omega) hR.2⟩ hcs, ?_⟩
  refine List.forall_mem_cons.mpr ⟨s_eq0 (pc := 7) X (off := 21) (by decide +kernel) (by decide), ?_⟩
  refine List.forall_mem_cons.mpr ⟨s_iload_n (pc := 10) X (i := 2) (by decide +kernel) rfl, ?_⟩
  refine List.forall_mem_cons.mpr ⟨s_iconst (pc := 11) X (n := 0) (by decide +kernel) (by decide), ?_⟩
  refine List.forall_mem_cons.mpr ⟨s_iconst (pc := 12) X (n := 4) (by decide +kernel) (by decide), ?_⟩
  refine List.forall_mem_cons.mpr ⟨s_callS (pc := 13) X (idx := 29) (by decide +kernel) h_X5_isIn lk_RX5_29 ls_X5_isIn li_RX5 lc_X5_isIn hy_X5_isIn ⟨Nat.le_trans hd_X5_isIn hR.1, Nat.le_trans (by have := hd_X5_isIn; omega) hR.2⟩ hcs, ?_⟩
  refine List.forall_mem_cons.mpr ⟨s_eq0 (pc := 16) X (off := 12) (by decide +kernel) (by decide), ?_⟩
  refine List.forall_mem_cons.mpr ⟨s_iload_n (pc := 19) X (i := 3) (by decide +kernel) rfl, ?_⟩
  refine List.forall_mem_cons.mpr ⟨s_iconst (pc := 20) X (n := 0) (by decide +kernel) (by decide), ?_⟩
  refine List.forall_mem_cons.mpr ⟨s_iconst (pc := 21) X (n := 4) (by decide +kernel) (by decide), ?_⟩
  refine List.forall_mem_cons.mpr ⟨s_callS (pc := 22) X (idx := 29) (by decide +kernel) h_X5_isIn lk_RX5_29 ls_X5_isIn li_RX5 lc_X5_isIn hy_X5_isIn ⟨Nat.le_trans hd_X5_isIn hR.1, Nat.le_trans (by have := hd_X5_isIn; omega) hR.2⟩ hcs, ?_⟩
  refine List.forall_mem_cons.mpr ⟨s_ne0 (pc := 25) X (off := 5) (by decide +kernel) (by decide), ?_⟩
  refine List.forall_mem_cons.mpr ⟨s_iconst (pc := 28) X (n := 0) (by decide +kernel) (by decide), ?_⟩
  refine List.forall_mem_cons.mpr ⟨s_retZ (pc := 29) (by decide +kernel), ?_⟩
  refine List.forall_mem_cons.mpr ⟨s_iload_n (pc := 30) X (i := 3) (by decide +kernel) rfl, ?_⟩
  refine List.forall_mem_cons.mpr ⟨s_iconst (pc := 31) X (n := 1) (by decide +kernel) (by decide), ?_⟩
  refine List.forall_mem_cons.mpr ⟨s_lt (pc := 32) X (off := 12) (by decide +kernel) (by decide), ?_⟩
  refine List.forall_mem_cons.mpr ⟨s_iload_n (pc := 35) X (i := 2) (by decide +kernel) rfl, ?_⟩
  refine List.forall_mem_cons.mpr ⟨s_iload (pc := 36) X (by decide +kernel), ?_⟩
  refine List.forall_mem_cons.mpr ⟨s_callS (pc := 38) X (idx := 48) (by decide +kernel) h_X5_isNumber lk_RX5_48 ls_X5_isNumber li_RX5 lc_X5_isNumber hy_X5_isNumber ⟨Nat.le_trans hd_X5_isNumber hR.1, Nat.le_trans (by have := hd_X5_isNumber; omega) hR.2⟩ hcs, ?_⟩
  refine List.forall_mem_cons.mpr ⟨s_eq0 (pc := 41) X (off := 49) (by decide +kernel) (by decide), ?_⟩
  refine List.forall_mem_cons.mpr ⟨s_iload_n (pc := 44) X (i := 3) (by decide +kernel) rfl, ?_⟩
  refine List.forall_mem_cons.mpr ⟨s_iconst (pc := 45) X (n := 2) (by decide +kernel) (by decide), ?_⟩
  refine List.forall_mem_cons.mpr ⟨s_lt (pc := 46) X (off := 12) (by decide +kernel) (by decide), ?_⟩
  refine List.forall_mem_cons.mpr ⟨s_iload_n (pc := 49) X (i := 2) (by decide +kernel) rfl, ?_⟩
  refine List.forall_mem_cons.mpr ⟨s_iload (pc := 50) X (by decide +kernel), ?_⟩
  refine List.forall_mem_cons.mpr ⟨s_callS (pc := 52) X (idx := 48) (by decide +kernel) h_X5_isNumber lk_RX5_48 ls_X5_isNumber li_RX5 lc_X5_isNumber hy_X5_isNumber ⟨Nat.le_trans hd_X5_isNumber hR.1, Nat.le_trans (by have := hd_X5_isNumber; omega) hR.2⟩ hcs, ?_⟩
  refine List.forall_mem_cons.mpr ⟨s_eq0 (pc := 55) X (off := 35) (by decide +kernel) (by decide), ?_⟩
  refine List.forall_mem_cons.mpr ⟨s_iload_n (pc := 58) X (i := 3) (by decide +kernel) rfl, ?_⟩
  refine List.forall_mem_cons.mpr ⟨s_iconst (pc := 59) X (n := 3) (by decide +kernel) (by decide), ?_⟩
  refine List.forall_mem_cons.mpr ⟨s_lt (pc := 60) X (off := 12) (by decide +kernel) (by decide), ?_⟩
  refine List.forall_mem_cons.mpr ⟨s_iload_n (pc := 63) X (i := 2) (by decide +kernel) rfl, ?_⟩
  refine List.forall_mem_cons.mpr ⟨s_iload (pc := 64) X (by decide +kernel), ?_⟩
  refine List.forall_mem_cons.mpr ⟨s_callS (pc := 66) X (idx := 48) (by decide +kernel) h_X5_isNumber lk_RX5_48 ls_X5_isNumber li_RX5 lc_X5_isNumber hy_X5_isNumber ⟨Nat.le_trans hd_X5_isNumber hR.1, Nat.le_trans (by have := hd_X5_isNumber; omega) hR.2⟩ hcs, ?_⟩
  refine List.forall_mem_cons.mpr ⟨s_eq0 (pc := 69) X (off := 21) (by decide +kernel) (by decide), ?_⟩
  refine List.forall_mem_cons.mpr ⟨s_iload_n (pc := 72) X (i := 3) (by decide +kernel) rfl, ?_⟩
  refine List.forall_mem_cons.mpr ⟨s_iconst (pc := 73) X (n := 4) (by decide +kernel) (by decide), ?_⟩
  exact fun _ h => absurd h List.not_mem_nil
def T_X5_put_1 (E : Ex) (env : Nat → Mf) : List (Nat × Stq) := [(74, o_lt 86 77),
  (77, o_il 78 2),
  (78, o_il 80 7),
  (80, o_call env 83 73 2),
  (83, o_eq0 90 86),
  (86, o_ic 87 (1)),
  (87, o_goto 91),
  (90, o_ic 91 (0)),
  (91, o_is 93 8),
  (93, o_il 95 8),
  (95, o_ne0 100 98),
  (98, o_ic 99 (0)),
  (99, o_retZ),
  (100, o_al 101 0),
  (101, o_callV SH env 104 70 0 5),
  (104, o_al 105 0),
  (105, o_il 106 1),
  (106, o_ic 107 (0)),
  (107, o_ic 108 (1)),
  (108, o_callV SH env 111 67 3 5),
  (111, o_al 112 0),
  (112, o_il 113 1),
  (113, o_ic 114 (1)),
  (114, o_il 115 2),
  (115, o_callV SH env 118 67 3 5),
  (118, o_al 119 0),
  (119, o_il 120 1),
  (120, o_ic 121 (2)),
  (121, o_il 122 3),
  (122, o_callV SH env 125 67 3 5),
  (125, o_al 126 0),
  (126, o_il 127 1),
  (127, o_ic 128 (3)),
  (128, o_ic 129 (1)),
  (129, o_callV SH env 132 67 3 5),
  (132, o_ic 133 (0)),
  (133, o_is 135 9),
  (135, o_il 137 9),
  (137, o_ic 138 (4)),
  (138, o_ge 213 141)]
set_option maxRecDepth 100000 in
set_option maxHeartbeats 4000000 in
theorem ts_X5_put_1 {p : Program} {l : Launch} {e : Env} {R : Room} {s : State} {m : MethodId} {args : Array Value} {below : List Frame} {meth : Method} {c : Code} {cells slots : Nat} {Q : State → Prop} {D : va_G} {C : CI3} {A : Nat → Prop} {ad : Nat → Nat} {E : Ex} {env : Nat → Mf} {d : Nat} (X : Cx p R s m args c cX5_put 11 RX5 D C A ad SH E) (hR : d ≤ R.frames ∧ 100 * d ≤ R.locals) (hcs : cells ≤ R.cells ∧ slots ≤ R.slots) {d_X5_isIn : Nat} (h_X5_isIn : CM l SH E yX5_isIn cX5_isIn 3 (some .boolean) d_X5_isIn (env 64)) (hd_X5_isIn : d_X5_isIn + 1 ≤ d) {d_X5_isNumber : Nat} (h_X5_isNumber : CM l SH E yX5_isNumber cX5_isNumber 2 (some .boolean) d_X5_isNumber (env 73)) (hd_X5_isNumber : d_X5_isNumber + 1 ≤ d) {d_X5_keep : Nat} (h_X5_keep : CM l SH E yX5_keep cX5_keep 2 (none) d_X5_keep (env 70)) (hd_X5_keep : d_X5_keep + 1 ≤ d) {d_X5_set : Nat} (h_X5_set : CM l SH E yX5_set cX5_set 4 (none) d_X5_set (env 67)) (hd_X5_set : d_X5_set + 1 ≤ d) : ∀ q ∈ T_X5_put_1 E env, SS p l e R s m args below meth c cells slots Q D C A ad SH 11 cX5_put (some .boolean) q.1 q.2 := by
  unfold T_X5_put_1
  refine List.forall_mem_cons.mpr ⟨s_lt (pc := 74) X (off := 12) (by decide +kernel) (by decide), ?_⟩
  refine List.forall_mem_cons.mpr ⟨s_iload_n (pc := 77) X (i := 2) (by decide +kernel) rfl, ?_⟩
  refine List.forall_mem_cons.mpr ⟨s_iload (pc := 78) X (by decide +kernel), ?_⟩
  refine List.forall_mem_cons.mpr ⟨s_callS (pc := 80) X (idx := 48) (by decide +kernel) h_X5_isNumber lk_RX5_48 ls_X5_isNumber li_RX5 lc_X5_isNumber hy_X5_isNumber ⟨Nat.le_trans hd_X5_isNumber hR.1, Nat.le_trans (by have := hd_X5_isNumber; omega) hR.2⟩ hcs, ?_⟩
  refine List.forall_mem_cons.mpr ⟨s_eq0 (pc := 83) X (off := 7) (by decide +kernel) (by decide), ?_⟩
  refine List.forall_mem_cons.mpr ⟨s_iconst (pc := 86) X (n := 1) (by decide +kernel) (by decide), ?_⟩
  refine List.forall_mem_cons.mpr ⟨s_goto (pc := 87) X (off := 4) (by decide +kernel) (by decide), ?_⟩
  refine List.forall_mem_cons.mpr ⟨s_iconst (pc := 90) X (n := 0) (by decide +kernel) (by decide), ?_⟩
  refine List.forall_mem_cons.mpr ⟨s_istore (pc := 91) X (by decide +kernel) (by decide), ?_⟩
  refine List.forall_mem_cons.mpr ⟨s_iload (pc := 93) X (by decide +kernel), ?_⟩
  refine List.forall_mem_cons.mpr ⟨s_ne0 (pc := 95) X (off := 5) (by decide +kernel) (by decide), ?_⟩
  refine List.forall_mem_cons.mpr ⟨s_iconst (pc := 98) X (n := 0) (by decide +kernel) (by decide), ?_⟩
  refine List.forall_mem_cons.mpr ⟨s_retZ (pc := 99) (by decide +kernel), ?_⟩
  refine List.forall_mem_cons.mpr ⟨s_aload_n (pc := 100) X (i := 0) (by decide +kernel) rfl, ?_⟩
  refine List.forall_mem_cons.mpr ⟨s_callV (pc := 101) X (idx := 45) (by decide +kernel) h_X5_keep rfl lk_RX5_45 ls_X5_keep lz_X5_keep li_RX5 lc_X5_keep hv_X5_keep ⟨Nat.le_trans hd_X5_keep hR.1, Nat.le_trans (by have := hd_X5_keep; omega) hR.2⟩ hcs, ?_⟩
  refine List.forall_mem_cons.mpr ⟨s_aload_n (pc := 104) X (i := 0) (by decide +kernel) rfl, ?_⟩
  refine List.forall_mem_cons.mpr ⟨s_iload_n (pc := 105) X (i := 1) (by decide +kernel) rfl, ?_⟩
  refine List.forall_mem_cons.mpr ⟨s_iconst (pc := 106) X (n := 0) (by decide +kernel) (by decide), ?_⟩
  refine List.forall_mem_cons.mpr ⟨s_iconst (pc := 107) X (n := 1) (by decide +kernel) (by decide), ?_⟩
  refine List.forall_mem_cons.mpr ⟨s_callV (pc := 108) X (idx := 52) (by decide +kernel) h_X5_set rfl lk_RX5_52 ls_X5_set lz_X5_set li_RX5 lc_X5_set hv_X5_set ⟨Nat.le_trans hd_X5_set hR.1, Nat.le_trans (by have := hd_X5_set; omega) hR.2⟩ hcs, ?_⟩
  refine List.forall_mem_cons.mpr ⟨s_aload_n (pc := 111) X (i := 0) (by decide +kernel) rfl, ?_⟩
  refine List.forall_mem_cons.mpr ⟨s_iload_n (pc := 112) X (i := 1) (by decide +kernel) rfl, ?_⟩
  refine List.forall_mem_cons.mpr ⟨s_iconst (pc := 113) X (n := 1) (by decide +kernel) (by decide), ?_⟩
  refine List.forall_mem_cons.mpr ⟨s_iload_n (pc := 114) X (i := 2) (by decide +kernel) rfl, ?_⟩
  refine List.forall_mem_cons.mpr ⟨s_callV (pc := 115) X (idx := 52) (by decide +kernel) h_X5_set rfl lk_RX5_52 ls_X5_set lz_X5_set li_RX5 lc_X5_set hv_X5_set ⟨Nat.le_trans hd_X5_set hR.1, Nat.le_trans (by have := hd_X5_set; omega) hR.2⟩ hcs, ?_⟩
  refine List.forall_mem_cons.mpr ⟨s_aload_n (pc := 118) X (i := 0) (by decide +kernel) rfl, ?_⟩
  refine List.forall_mem_cons.mpr ⟨s_iload_n (pc := 119) X (i := 1) (by decide +kernel) rfl, ?_⟩
  refine List.forall_mem_cons.mpr ⟨s_iconst (pc := 120) X (n := 2) (by decide +kernel) (by decide), ?_⟩
  refine List.forall_mem_cons.mpr ⟨s_iload_n (pc := 121) X (i := 3) (by decide +kernel) rfl, ?_⟩
  refine List.forall_mem_cons.mpr ⟨s_callV (pc := 122) X (idx := 52) (by decide +kernel) h_X5_set rfl lk_RX5_52 ls_X5_set lz_X5_set li_RX5 lc_X5_set hv_X5_set ⟨Nat.le_trans hd_X5_set hR.1, Nat.le_trans (by have := hd_X5_set; omega) hR.2⟩ hcs, ?_⟩
  refine List.forall_mem_cons.mpr ⟨s_aload_n (pc := 125) X (i := 0) (by decide +kernel) rfl, ?_⟩
  refine List.forall_mem_cons.mpr ⟨s_iload_n (pc := 126) X (i := 1) (by decide +kernel) rfl, ?_⟩
  refine List.forall_mem_cons.mpr ⟨s_iconst (pc := 127) X (n := 3) (by decide +kernel) (by decide), ?_⟩
  refine List.forall_mem_cons.mpr ⟨s_iconst (pc := 128) X (n := 1) (by decide +kernel) (by decide), ?_⟩
  refine List.forall_mem_cons.mpr ⟨s_callV (pc := 129) X (idx := 52) (by decide +kernel) h_X5_set rfl lk_RX5_52 ls_X5_set lz_X5_set li_RX5 lc_X5_set hv_X5_set ⟨Nat.le_trans hd_X5_set hR.1, Nat.le_trans (by have := hd_X5_set; omega) hR.2⟩ hcs, ?_⟩
  refine List.forall_mem_cons.mpr ⟨s_iconst (pc := 132) X (n := 0) (by decide +kernel) (by decide), ?_⟩
  refine List.forall_mem_cons.mpr ⟨s_istore (pc := 133) X (by decide +kernel) (by decide), ?_⟩
  refine List.forall_mem_cons.mpr ⟨s_iload (pc := 135) X (by decide +kernel), ?_⟩
  refine List.forall_mem_cons.mpr ⟨s_iconst (pc := 137) X (n := 4) (by decide +kernel) (by decide), ?_⟩
  refine List.forall_mem_cons.mpr ⟨s_ge (pc := 138) X (off := 75) (by decide +kernel) (by decide), ?_⟩
  exact fun _ h => absurd h List.not_mem_nil
def T_X5_put_2 (E : Ex) (env : Nat → Mf) : List (Nat × Stq) := [(141, o_il 143 9),
  (143, o_ne0 151 146),
  (146, o_il 148 4),
  (148, o_goto 175),
  (151, o_il 153 9),
  (153, o_ic 154 (1)),
  (154, o_ne 162 157),
  (157, o_il 159 5),
  (159, o_goto 175),
  (162, o_il 164 9),
  (164, o_ic 165 (2)),
  (165, o_ne 173 168),
  (168, o_il 170 6),
  (170, o_goto 175),
  (173, o_il 175 7),
  (175, o_is 177 10),
  (177, o_al 178 0),
  (178, o_il 179 1),
  (179, o_ic 180 (4)),
  (180, o_il 182 9),
  (182, o_b2 183 (fun x y => x + y)),
  (183, o_il 185 9),
  (185, o_il 186 3),
  (186, o_ge 196 189),
  (189, o_il 191 10),
  (191, o_ic 193 (100)),
  (193, o_ne 202 196),
  (196, o_ic 199 (1000)),
  (199, o_goto 204),
  (202, o_il 204 10),
  (204, o_callV SH env 207 67 3 5),
  (207, o_inc 210 9 (1)),
  (210, o_goto 135),
  (213, o_ic 214 (1)),
  (214, o_retZ)]
set_option maxRecDepth 100000 in
set_option maxHeartbeats 4000000 in
theorem ts_X5_put_2 {p : Program} {l : Launch} {e : Env} {R : Room} {s : State} {m : MethodId} {args : Array Value} {below : List Frame} {meth : Method} {c : Code} {cells slots : Nat} {Q : State → Prop} {D : va_G} {C : CI3} {A : Nat → Prop} {ad : Nat → Nat} {E : Ex} {env : Nat → Mf} {d : Nat} (X : Cx p R s m args c cX5_put 11 RX5 D C A ad SH E) (hR : d ≤ R.frames ∧ 100 * d ≤ R.locals) (hcs : cells ≤ R.cells ∧ slots ≤ R.slots) {d_X5_isIn : Nat} (h_X5_isIn : CM l SH E yX5_isIn cX5_isIn 3 (some .boolean) d_X5_isIn (env 64)) (hd_X5_isIn : d_X5_isIn + 1 ≤ d) {d_X5_isNumber : Nat} (h_X5_isNumber : CM l SH E yX5_isNumber cX5_isNumber 2 (some .boolean) d_X5_isNumber (env 73)) (hd_X5_isNumber : d_X5_isNumber + 1 ≤ d) {d_X5_keep : Nat} (h_X5_keep : CM l SH E yX5_keep cX5_keep 2 (none) d_X5_keep (env 70)) (hd_X5_keep : d_X5_keep + 1 ≤ d) {d_X5_set : Nat} (h_X5_set : CM l SH E yX5_set cX5_set 4 (none) d_X5_set (env 67)) (hd_X5_set : d_X5_set + 1 ≤ d) : ∀ q ∈ T_X5_put_2 E env, SS p l e R s m args below meth c cells slots Q D C A ad SH 11 cX5_put (some .boolean) q.1 q.2 := by
  unfold T_X5_put_2
  refine List.forall_mem_cons.mpr ⟨s_iload (pc := 141) X (by decide +kernel), ?_⟩
  refine List.forall_mem_cons.mpr ⟨s_ne0 (pc := 143) X (off := 8) (by decide +kernel) (by decide), ?_⟩
  refine List.forall_mem_cons.mpr ⟨s_iload (pc := 146) X (by decide +kernel), ?_⟩
  refine List.forall_mem_cons.mpr ⟨s_goto (pc := 148) X (off := 27) (by decide +kernel) (by decide), ?_⟩
  refine List.forall_mem_cons.mpr ⟨s_iload (pc := 151) X (by decide +kernel), ?_⟩
  refine List.forall_mem_cons.mpr ⟨s_iconst (pc := 153) X (n := 1) (by decide +kernel) (by decide), ?_⟩
  refine List.forall_mem_cons.mpr ⟨s_ne (pc := 154) X (off := 8) (by decide +kernel) (by decide), ?_⟩
  refine List.forall_mem_cons.mpr ⟨s_iload (pc := 157) X (by decide +kernel), ?_⟩
  refine List.forall_mem_cons.mpr ⟨s_goto (pc := 159) X (off := 16) (by decide +kernel) (by decide), ?_⟩
  refine List.forall_mem_cons.mpr ⟨s_iload (pc := 162) X (by decide +kernel), ?_⟩
  refine List.forall_mem_cons.mpr ⟨s_iconst (pc := 164) X (n := 2) (by decide +kernel) (by decide), ?_⟩
  refine List.forall_mem_cons.mpr ⟨s_ne (pc := 165) X (off := 8) (by decide +kernel) (by decide), ?_⟩
  refine List.forall_mem_cons.mpr ⟨s_iload (pc := 168) X (by decide +kernel), ?_⟩
  refine List.forall_mem_cons.mpr ⟨s_goto (pc := 170) X (off := 5) (by decide +kernel) (by decide), ?_⟩
  refine List.forall_mem_cons.mpr ⟨s_iload (pc := 173) X (by decide +kernel), ?_⟩
  refine List.forall_mem_cons.mpr ⟨s_istore (pc := 175) X (by decide +kernel) (by decide), ?_⟩
  refine List.forall_mem_cons.mpr ⟨s_aload_n (pc := 177) X (i := 0) (by decide +kernel) rfl, ?_⟩
  refine List.forall_mem_cons.mpr ⟨s_iload_n (pc := 178) X (i := 1) (by decide +kernel) rfl, ?_⟩
  refine List.forall_mem_cons.mpr ⟨s_iconst (pc := 179) X (n := 4) (by decide +kernel) (by decide), ?_⟩
  refine List.forall_mem_cons.mpr ⟨s_iload (pc := 180) X (by decide +kernel), ?_⟩
  refine List.forall_mem_cons.mpr ⟨s_iadd (pc := 182) X (by decide +kernel), ?_⟩
  refine List.forall_mem_cons.mpr ⟨s_iload (pc := 183) X (by decide +kernel), ?_⟩
  refine List.forall_mem_cons.mpr ⟨s_iload_n (pc := 185) X (i := 3) (by decide +kernel) rfl, ?_⟩
  refine List.forall_mem_cons.mpr ⟨s_ge (pc := 186) X (off := 10) (by decide +kernel) (by decide), ?_⟩
  refine List.forall_mem_cons.mpr ⟨s_iload (pc := 189) X (by decide +kernel), ?_⟩
  refine List.forall_mem_cons.mpr ⟨s_bipush (pc := 191) X (n := 100) (by decide +kernel) (by decide), ?_⟩
  refine List.forall_mem_cons.mpr ⟨s_ne (pc := 193) X (off := 9) (by decide +kernel) (by decide), ?_⟩
  refine List.forall_mem_cons.mpr ⟨s_sipush (pc := 196) X (n := 1000) (by decide +kernel) (by decide), ?_⟩
  refine List.forall_mem_cons.mpr ⟨s_goto (pc := 199) X (off := 5) (by decide +kernel) (by decide), ?_⟩
  refine List.forall_mem_cons.mpr ⟨s_iload (pc := 202) X (by decide +kernel), ?_⟩
  refine List.forall_mem_cons.mpr ⟨s_callV (pc := 204) X (idx := 52) (by decide +kernel) h_X5_set rfl lk_RX5_52 ls_X5_set lz_X5_set li_RX5 lc_X5_set hv_X5_set ⟨Nat.le_trans hd_X5_set hR.1, Nat.le_trans (by have := hd_X5_set; omega) hR.2⟩ hcs, ?_⟩
  refine List.forall_mem_cons.mpr ⟨s_iinc (pc := 207) X (n := 1) (by decide +kernel) (by decide) (by decide), ?_⟩
  refine List.forall_mem_cons.mpr ⟨s_goto (pc := 210) X (off := -75) (by decide +kernel) (by decide), ?_⟩
  refine List.forall_mem_cons.mpr ⟨s_iconst (pc := 213) X (n := 1) (by decide +kernel) (by decide), ?_⟩
  refine List.forall_mem_cons.mpr ⟨s_retZ (pc := 214) (by decide +kernel), ?_⟩
  exact fun _ h => absurd h List.not_mem_nil
def T_X5_put (E : Ex) (env : Nat → Mf) : List (Nat × Stq) := T_X5_put_0 E env ++ (T_X5_put_1 E env ++ (T_X5_put_2 E env))
theorem ts_X5_put {p : Program} {l : Launch} {e : Env} {R : Room} {s : State} {m : MethodId} {args : Array Value} {below : List Frame} {meth : Method} {c : Code} {cells slots : Nat} {Q : State → Prop} {D : va_G} {C : CI3} {A : Nat → Prop} {ad : Nat → Nat} {E : Ex} {env : Nat → Mf} {d : Nat} (X : Cx p R s m args c cX5_put 11 RX5 D C A ad SH E) (hR : d ≤ R.frames ∧ 100 * d ≤ R.locals) (hcs : cells ≤ R.cells ∧ slots ≤ R.slots) {d_X5_isIn : Nat} (h_X5_isIn : CM l SH E yX5_isIn cX5_isIn 3 (some .boolean) d_X5_isIn (env 64)) (hd_X5_isIn : d_X5_isIn + 1 ≤ d) {d_X5_isNumber : Nat} (h_X5_isNumber : CM l SH E yX5_isNumber cX5_isNumber 2 (some .boolean) d_X5_isNumber (env 73)) (hd_X5_isNumber : d_X5_isNumber + 1 ≤ d) {d_X5_keep : Nat} (h_X5_keep : CM l SH E yX5_keep cX5_keep 2 (none) d_X5_keep (env 70)) (hd_X5_keep : d_X5_keep + 1 ≤ d) {d_X5_set : Nat} (h_X5_set : CM l SH E yX5_set cX5_set 4 (none) d_X5_set (env 67)) (hd_X5_set : d_X5_set + 1 ≤ d) : ∀ q ∈ T_X5_put E env, SS p l e R s m args below meth c cells slots Q D C A ad SH 11 cX5_put (some .boolean) q.1 q.2 := List.forall_mem_append.mpr ⟨ts_X5_put_0 X hR hcs h_X5_isIn hd_X5_isIn h_X5_isNumber hd_X5_isNumber h_X5_keep hd_X5_keep h_X5_set hd_X5_set, List.forall_mem_append.mpr ⟨ts_X5_put_1 X hR hcs h_X5_isIn hd_X5_isIn h_X5_isNumber hd_X5_isNumber h_X5_keep hd_X5_keep h_X5_set hd_X5_set, ts_X5_put_2 X hR hcs h_X5_isIn hd_X5_isIn h_X5_isNumber hd_X5_isNumber h_X5_keep hd_X5_keep h_X5_set hd_X5_set⟩⟩
def T_X5_change (E : Ex) (env : Nat → Mf) : List (Nat × Stq) := [(0, o_al 1 0),
  (1, o_il 2 1),
  (2, o_callV SH env 5 68 1 5),
  (5, o_eq0 39 8),
  (8, o_al 9 0),
  (9, o_il 10 2),
  (10, o_callV SH env 13 69 1 5),
  (13, o_eq0 39 16),
  (16, o_il 17 2),
  (17, o_al 18 0),
  (18, o_il 19 1),
  (19, o_ic 20 (2)),
  (20, o_callV SH env 23 66 2 5),
  (23, o_ge 39 26),
  (26, o_al 27 0),
  (27, o_il 28 1),
  (28, o_ic 29 (1)),
  (29, o_callV SH env 32 66 2 5),
  (32, o_il 33 3),
  (33, o_call env 36 73 2),
  (36, o_ne0 41 39),
  (39, o_ic 40 (0)),
  (40, o_retZ),
  (41, o_al 42 0),
  (42, o_callV SH env 45 70 0 5),
  (45, o_al 46 0),
  (46, o_il 47 1),
  (47, o_ic 48 (4)),
  (48, o_il 49 2),
  (49, o_b2 50 (fun x y => x + y)),
  (50, o_il 51 3),
  (51, o_ic 53 (100)),
  (53, o_ne 62 56),
  (56, o_ic 59 (1000)),
  (59, o_goto 63),
  (62, o_il 63 3),
  (63, o_callV SH env 66 67 3 5),
  (66, o_ic 67 (1)),
  (67, o_retZ)]
set_option maxRecDepth 100000 in
set_option maxHeartbeats 4000000 in
theorem ts_X5_change {p : Program} {l : Launch} {e : Env} {R : Room} {s : State} {m : MethodId} {args : Array Value} {below : List Frame} {meth : Method} {c : Code} {cells slots : Nat} {Q : State → Prop} {D : va_G} {C : CI3} {A : Nat → Prop} {ad : Nat → Nat} {E : Ex} {env : Nat → Mf} {d : Nat} (X : Cx p R s m args c cX5_change 4 RX5 D C A ad SH E) (hR : d ≤ R.frames ∧ 100 * d ≤ R.locals) (hcs : cells ≤ R.cells ∧ slots ≤ R.slots) {d_X5_isRow : Nat} (h_X5_isRow : CM l SH E yX5_isRow cX5_isRow 2 (some .boolean) d_X5_isRow (env 68)) (hd_X5_isRow : d_X5_isRow + 1 ≤ d) {d_X5_isColumn : Nat} (h_X5_isColumn : CM l SH E yX5_isColumn cX5_isColumn 2 (some .boolean) d_X5_isColumn (env 69)) (hd_X5_isColumn : d_X5_isColumn + 1 ≤ d) {d_X5_get : Nat} (h_X5_get : CM l SH E yX5_get cX5_get 3 (some .int) d_X5_get (env 66)) (hd_X5_get : d_X5_get + 1 ≤ d) {d_X5_isNumber : Nat} (h_X5_isNumber : CM l SH E yX5_isNumber cX5_isNumber 2 (some .boolean) d_X5_isNumber (env 73)) (hd_X5_isNumber : d_X5_isNumber + 1 ≤ d) {d_X5_keep : Nat} (h_X5_keep : CM l SH E yX5_keep cX5_keep 2 (none) d_X5_keep (env 70)) (hd_X5_keep : d_X5_keep + 1 ≤ d) {d_X5_set : Nat} (h_X5_set : CM l SH E yX5_set cX5_set 4 (none) d_X5_set (env 67)) (hd_X5_set : d_X5_set + 1 ≤ d) : ∀ q ∈ T_X5_change E env, SS p l e R s m args below meth c cells slots Q D C A ad SH 4 cX5_change (some .boolean) q.1 q.2 := by
  unfold T_X5_change
  refine List.forall_mem_cons.mpr ⟨s_aload_n (pc := 0) X (i := 0) (by decide +kernel) rfl, ?_⟩
  refine List.forall_mem_cons.mpr ⟨s_iload_n (pc := 1) X (i := 1) (by decide +kernel) rfl, ?_⟩
  refine List.forall_mem_cons.mpr ⟨s_callV (pc := 2) X (idx := 56) (by decide +kernel) h_X5_isRow rfl lk_RX5_56 ls_X5_isRow lz_X5_isRow li_RX5 lc_X5_isRow hv_X5_isRow ⟨Nat.le_trans hd_X5_isRow hR.1, Nat.le_trans (by have := hd_X5_isRow; omega) hR.2⟩ hcs, ?_⟩
  refine List.forall_mem_cons.mpr ⟨s_eq0 (pc := 5) X (off := 34) (by decide +kernel) (by decide), ?_⟩
  refine List.forall_mem_cons.mpr ⟨s_aload_n (pc := 8) X (i := 0) (by decide +kernel) rfl, ?_⟩
  refine List.forall_mem_cons.mpr ⟨s_iload_n (pc := 9) X (i := 2) (by decide +kernel) rfl, ?_⟩
  refine List.forall_mem_cons.mpr ⟨s_callV (pc := 10) X (idx := 60) (by decide +kernel) h_X5_isColumn rfl lk_RX5_60 ls_X5_isColumn lz_X5_isColumn li_RX5 lc_X5_isColumn hv_X5_isColumn ⟨Nat.le_trans hd_X5_isColumn hR.1, Nat.le_trans (by have := hd_X5_isColumn; omega) hR.2⟩ hcs, ?_⟩
  refine List.forall_mem_cons.mpr ⟨s_eq0 (pc := 13) X (off := 26) (by decide +kernel) (by decide), ?_⟩
  refine List.forall_mem_cons.mpr ⟨s_iload_n (pc := 16) X (i := 2) (by decide +kernel) rfl, ?_⟩
  refine List.forall_mem_cons.mpr ⟨s_aload_n (pc := 17) X (i := 0) (by decide +kernel) rfl, ?_⟩
  refine List.forall_mem_cons.mpr ⟨s_iload_n (pc := 18) X (i := 1) (by decide +kernel) rfl, ?_⟩
  refine List.forall_mem_cons.mpr ⟨s_iconst (pc := 19) X (n := 2) (by decide +kernel) (by decide), ?_⟩
  refine List.forall_mem_cons.mpr ⟨s_callV (pc := 20) X (idx := 33) (by decide +kernel) h_X5_get rfl lk_RX5_33 ls_X5_get lz_X5_get li_RX5 lc_X5_get hv_X5_get ⟨Nat.le_trans hd_X5_get hR.1, Nat.le_trans (by have := hd_X5_get; omega) hR.2⟩ hcs, ?_⟩
  refine List.forall_mem_cons.mpr ⟨s_ge (pc := 23) X (off := 16) (by decide +kernel) (by decide), ?_⟩
  refine List.forall_mem_cons.mpr ⟨s_aload_n (pc := 26) X (i := 0) (by decide +kernel) rfl, ?_⟩
  refine List.forall_mem_cons.mpr ⟨s_iload_n (pc := 27) X (i := 1) (by decide +kernel) rfl, ?_⟩
  refine List.forall_mem_cons.mpr ⟨s_iconst (pc := 28) X (n := 1) (by decide +kernel) (by decide), ?_⟩
  refine List.forall_mem_cons.mpr ⟨s_callV (pc := 29) X (idx := 33) (by decide +kernel) h_X5_get rfl lk_RX5_33 ls_X5_get lz_X5_get li_RX5 lc_X5_get hv_X5_get ⟨Nat.le_trans hd_X5_get hR.1, Nat.le_trans (by have := hd_X5_get; omega) hR.2⟩ hcs, ?_⟩
  refine List.forall_mem_cons.mpr ⟨s_iload_n (pc := 32) X (i := 3) (by decide +kernel) rfl, ?_⟩
  refine List.forall_mem_cons.mpr ⟨s_callS (pc := 33) X (idx := 48) (by decide +kernel) h_X5_isNumber lk_RX5_48 ls_X5_isNumber li_RX5 lc_X5_isNumber hy_X5_isNumber ⟨Nat.le_trans hd_X5_isNumber hR.1, Nat.le_trans (by have := hd_X5_isNumber; omega) hR.2⟩ hcs, ?_⟩
  refine List.forall_mem_cons.mpr ⟨s_ne0 (pc := 36) X (off := 5) (by decide +kernel) (by decide), ?_⟩
  refine List.forall_mem_cons.mpr ⟨s_iconst (pc := 39) X (n := 0) (by decide +kernel) (by decide), ?_⟩
  refine List.forall_mem_cons.mpr ⟨s_retZ (pc := 40) (by decide +kernel), ?_⟩
  refine List.forall_mem_cons.mpr ⟨s_aload_n (pc := 41) X (i := 0) (by decide +kernel) rfl, ?_⟩
  refine List.forall_mem_cons.mpr ⟨s_callV (pc := 42) X (idx := 45) (by decide +kernel) h_X5_keep rfl lk_RX5_45 ls_X5_keep lz_X5_keep li_RX5 lc_X5_keep hv_X5_keep ⟨Nat.le_trans hd_X5_keep hR.1, Nat.le_trans (by have := hd_X5_keep; omega) hR.2⟩ hcs, ?_⟩
  refine List.forall_mem_cons.mpr ⟨s_aload_n (pc := 45) X (i := 0) (by decide +kernel) rfl, ?_⟩
  refine List.forall_mem_cons.mpr ⟨s_iload_n (pc := 46) X (i := 1) (by decide +kernel) rfl, ?_⟩
  refine List.forall_mem_cons.mpr ⟨s_iconst (pc := 47) X (n := 4) (by decide +kernel) (by decide), ?_⟩
  refine List.forall_mem_cons.mpr ⟨s_iload_n (pc := 48) X (i := 2) (by decide +kernel) rfl, ?_⟩
  refine List.forall_mem_cons.mpr ⟨s_iadd (pc := 49) X (by decide +kernel), ?_⟩
  refine List.forall_mem_cons.mpr ⟨s_iload_n (pc := 50) X (i := 3) (by decide +kernel) rfl, ?_⟩
  refine List.forall_mem_cons.mpr ⟨s_bipush (pc := 51) X (n := 100) (by decide +kernel) (by decide), ?_⟩
  refine List.forall_mem_cons.mpr ⟨s_ne (pc := 53) X (off := 9) (by decide +kernel) (by decide), ?_⟩
  refine List.forall_mem_cons.mpr ⟨s_sipush (pc := 56) X (n := 1000) (by decide +kernel) (by decide), ?_⟩
  refine List.forall_mem_cons.mpr ⟨s_goto (pc := 59) X (off := 4) (by decide +kernel) (by decide), ?_⟩
  refine List.forall_mem_cons.mpr ⟨s_iload_n (pc := 62) X (i := 3) (by decide +kernel) rfl, ?_⟩
  refine List.forall_mem_cons.mpr ⟨s_callV (pc := 63) X (idx := 52) (by decide +kernel) h_X5_set rfl lk_RX5_52 ls_X5_set lz_X5_set li_RX5 lc_X5_set hv_X5_set ⟨Nat.le_trans hd_X5_set hR.1, Nat.le_trans (by have := hd_X5_set; omega) hR.2⟩ hcs, ?_⟩
  refine List.forall_mem_cons.mpr ⟨s_iconst (pc := 66) X (n := 1) (by decide +kernel) (by decide), ?_⟩
  refine List.forall_mem_cons.mpr ⟨s_retZ (pc := 67) (by decide +kernel), ?_⟩
  exact fun _ h => absurd h List.not_mem_nil
def T_X5_strike (E : Ex) (env : Nat → Mf) : List (Nat × Stq) := [(0, o_al 1 0),
  (1, o_il 2 1),
  (2, o_callV SH env 5 68 1 5),
  (5, o_ne0 10 8),
  (8, o_ic 9 (0)),
  (9, o_retZ),
  (10, o_al 11 0),
  (11, o_callV SH env 14 70 0 5),
  (14, o_al 15 0),
  (15, o_il 16 1),
  (16, o_ic 17 (0)),
  (17, o_ic 18 (0)),
  (18, o_callV SH env 21 67 3 5),
  (21, o_ic 22 (1)),
  (22, o_retZ)]
set_option maxRecDepth 100000 in
set_option maxHeartbeats 4000000 in
theorem ts_X5_strike {p : Program} {l : Launch} {e : Env} {R : Room} {s : State} {m : MethodId} {args : Array Value} {below : List Frame} {meth : Method} {c : Code} {cells slots : Nat} {Q : State → Prop} {D : va_G} {C : CI3} {A : Nat → Prop} {ad : Nat → Nat} {E : Ex} {env : Nat → Mf} {d : Nat} (X : Cx p R s m args c cX5_strike 2 RX5 D C A ad SH E) (hR : d ≤ R.frames ∧ 100 * d ≤ R.locals) (hcs : cells ≤ R.cells ∧ slots ≤ R.slots) {d_X5_isRow : Nat} (h_X5_isRow : CM l SH E yX5_isRow cX5_isRow 2 (some .boolean) d_X5_isRow (env 68)) (hd_X5_isRow : d_X5_isRow + 1 ≤ d) {d_X5_keep : Nat} (h_X5_keep : CM l SH E yX5_keep cX5_keep 2 (none) d_X5_keep (env 70)) (hd_X5_keep : d_X5_keep + 1 ≤ d) {d_X5_set : Nat} (h_X5_set : CM l SH E yX5_set cX5_set 4 (none) d_X5_set (env 67)) (hd_X5_set : d_X5_set + 1 ≤ d) : ∀ q ∈ T_X5_strike E env, SS p l e R s m args below meth c cells slots Q D C A ad SH 2 cX5_strike (some .boolean) q.1 q.2 := by
  unfold T_X5_strike
  refine List.forall_mem_cons.mpr ⟨s_aload_n (pc := 0) X (i := 0) (by decide +kernel) rfl, ?_⟩
  refine List.forall_mem_cons.mpr ⟨s_iload_n (pc := 1) X (i := 1) (by decide +kernel) rfl, ?_⟩
  refine List.forall_mem_cons.mpr ⟨s_callV (pc := 2) X (idx := 56) (by decide +kernel) h_X5_isRow rfl lk_RX5_56 ls_X5_isRow lz_X5_isRow li_RX5 lc_X5_isRow hv_X5_isRow ⟨Nat.le_trans hd_X5_isRow hR.1, Nat.le_trans (by have := hd_X5_isRow; omega) hR.2⟩ hcs, ?_⟩
  refine List.forall_mem_cons.mpr ⟨s_ne0 (pc := 5) X (off := 5) (by decide +kernel) (by decide), ?_⟩
  refine List.forall_mem_cons.mpr ⟨s_iconst (pc := 8) X (n := 0) (by decide +kernel) (by decide), ?_⟩
  refine List.forall_mem_cons.mpr ⟨s_retZ (pc := 9) (by decide +kernel), ?_⟩
  refine List.forall_mem_cons.mpr ⟨s_aload_n (pc := 10) X (i := 0) (by decide +kernel) rfl, ?_⟩
  refine List.forall_mem_cons.mpr ⟨s_callV (pc := 11) X (idx := 45) (by decide +kernel) h_X5_keep rfl lk_RX5_45 ls_X5_keep lz_X5_keep li_RX5 lc_X5_keep hv_X5_keep ⟨Nat.le_trans hd_X5_keep hR.1, Nat.le_trans (by have := hd_X5_keep; omega) hR.2⟩ hcs, ?_⟩
  refine List.forall_mem_cons.mpr ⟨s_aload_n (pc := 14) X (i := 0) (by decide +kernel) rfl, ?_⟩
  refine List.forall_mem_cons.mpr ⟨s_iload_n (pc := 15) X (i := 1) (by decide +kernel) rfl, ?_⟩
  refine List.forall_mem_cons.mpr ⟨s_iconst (pc := 16) X (n := 0) (by decide +kernel) (by decide), ?_⟩
  refine List.forall_mem_cons.mpr ⟨s_iconst (pc := 17) X (n := 0) (by decide +kernel) (by decide), ?_⟩
  refine List.forall_mem_cons.mpr ⟨s_callV (pc := 18) X (idx := 52) (by decide +kernel) h_X5_set rfl lk_RX5_52 ls_X5_set lz_X5_set li_RX5 lc_X5_set hv_X5_set ⟨Nat.le_trans hd_X5_set hR.1, Nat.le_trans (by have := hd_X5_set; omega) hR.2⟩ hcs, ?_⟩
  refine List.forall_mem_cons.mpr ⟨s_iconst (pc := 21) X (n := 1) (by decide +kernel) (by decide), ?_⟩
  refine List.forall_mem_cons.mpr ⟨s_retZ (pc := 22) (by decide +kernel), ?_⟩
  exact fun _ h => absurd h List.not_mem_nil
def T_X5_price (E : Ex) (env : Nat → Mf) : List (Nat × Stq) := [(0, o_al 1 0),
  (1, o_il 2 1),
  (2, o_callV SH env 5 68 1 5),
  (5, o_eq0 18 8),
  (8, o_il 9 2),
  (9, o_ic 10 (0)),
  (10, o_ic 12 (99)),
  (12, o_call env 15 64 3),
  (15, o_ne0 20 18),
  (18, o_ic 19 (0)),
  (19, o_retZ),
  (20, o_al 21 0),
  (21, o_callV SH env 24 70 0 5),
  (24, o_al 25 0),
  (25, o_il 26 1),
  (26, o_ic 27 (3)),
  (27, o_il 28 2),
  (28, o_callV SH env 31 67 3 5),
  (31, o_ic 32 (1)),
  (32, o_retZ)]
set_option maxRecDepth 100000 in
set_option maxHeartbeats 4000000 in
theorem ts_X5_price {p : Program} {l : Launch} {e : Env} {R : Room} {s : State} {m : MethodId} {args : Array Value} {below : List Frame} {meth : Method} {c : Code} {cells slots : Nat} {Q : State → Prop} {D : va_G} {C : CI3} {A : Nat → Prop} {ad : Nat → Nat} {E : Ex} {env : Nat → Mf} {d : Nat} (X : Cx p R s m args c cX5_price 3 RX5 D C A ad SH E) (hR : d ≤ R.frames ∧ 100 * d ≤ R.locals) (hcs : cells ≤ R.cells ∧ slots ≤ R.slots) {d_X5_isRow : Nat} (h_X5_isRow : CM l SH E yX5_isRow cX5_isRow 2 (some .boolean) d_X5_isRow (env 68)) (hd_X5_isRow : d_X5_isRow + 1 ≤ d) {d_X5_isIn : Nat} (h_X5_isIn : CM l SH E yX5_isIn cX5_isIn 3 (some .boolean) d_X5_isIn (env 64)) (hd_X5_isIn : d_X5_isIn + 1 ≤ d) {d_X5_keep : Nat} (h_X5_keep : CM l SH E yX5_keep cX5_keep 2 (none) d_X5_keep (env 70)) (hd_X5_keep : d_X5_keep + 1 ≤ d) {d_X5_set : Nat} (h_X5_set : CM l SH E yX5_set cX5_set 4 (none) d_X5_set (env 67)) (hd_X5_set : d_X5_set + 1 ≤ d) : ∀ q ∈ T_X5_price E env, SS p l e R s m args below meth c cells slots Q D C A ad SH 3 cX5_price (some .boolean) q.1 q.2 := by
  unfold T_X5_price
  refine List.forall_mem_cons.mpr ⟨s_aload_n (pc := 0) X (i := 0) (by decide +kernel) rfl, ?_⟩
  refine List.forall_mem_cons.mpr ⟨s_iload_n (pc := 1) X (i := 1) (by decide +kernel) rfl, ?_⟩
  refine List.forall_mem_cons.mpr ⟨s_callV (pc := 2) X (idx := 56) (by decide +kernel) h_X5_isRow rfl lk_RX5_56 ls_X5_isRow lz_X5_isRow li_RX5 lc_X5_isRow hv_X5_isRow ⟨Nat.le_trans hd_X5_isRow hR.1, Nat.le_trans (by have := hd_X5_isRow; omega) hR.2⟩ hcs, ?_⟩
  refine List.forall_mem_cons.mpr ⟨s_eq0 (pc := 5) X (off := 13) (by decide +kernel) (by decide), ?_⟩
  refine List.forall_mem_cons.mpr ⟨s_iload_n (pc := 8) X (i := 2) (by decide +kernel) rfl, ?_⟩
  refine List.forall_mem_cons.mpr ⟨s_iconst (pc := 9) X (n := 0) (by decide +kernel) (by decide), ?_⟩
  refine List.forall_mem_cons.mpr ⟨s_bipush (pc := 10) X (n := 99) (by decide +kernel) (by decide), ?_⟩
  refine List.forall_mem_cons.mpr ⟨s_callS (pc := 12) X (idx := 29) (by decide +kernel) h_X5_isIn lk_RX5_29 ls_X5_isIn li_RX5 lc_X5_isIn hy_X5_isIn ⟨Nat.le_trans hd_X5_isIn hR.1, Nat.le_trans (by have := hd_X5_isIn; omega) hR.2⟩ hcs, ?_⟩
  refine List.forall_mem_cons.mpr ⟨s_ne0 (pc := 15) X (off := 5) (by decide +kernel) (by decide), ?_⟩
  refine List.forall_mem_cons.mpr ⟨s_iconst (pc := 18) X (n := 0) (by decide +kernel) (by decide), ?_⟩
  refine List.forall_mem_cons.mpr ⟨s_retZ (pc := 19) (by decide +kernel), ?_⟩
  refine List.forall_mem_cons.mpr ⟨s_aload_n (pc := 20) X (i := 0) (by decide +kernel) rfl, ?_⟩
  refine List.forall_mem_cons.mpr ⟨s_callV (pc := 21) X (idx := 45) (by decide +kernel) h_X5_keep rfl lk_RX5_45 ls_X5_keep lz_X5_keep li_RX5 lc_X5_keep hv_X5_keep ⟨Nat.le_trans hd_X5_keep hR.1, Nat.le_trans (by have := hd_X5_keep; omega) hR.2⟩ hcs, ?_⟩
  refine List.forall_mem_cons.mpr ⟨s_aload_n (pc := 24) X (i := 0) (by decide +kernel) rfl, ?_⟩
  refine List.forall_mem_cons.mpr ⟨s_iload_n (pc := 25) X (i := 1) (by decide +kernel) rfl, ?_⟩
  refine List.forall_mem_cons.mpr ⟨s_iconst (pc := 26) X (n := 3) (by decide +kernel) (by decide), ?_⟩
  refine List.forall_mem_cons.mpr ⟨s_iload_n (pc := 27) X (i := 2) (by decide +kernel) rfl, ?_⟩
  refine List.forall_mem_cons.mpr ⟨s_callV (pc := 28) X (idx := 52) (by decide +kernel) h_X5_set rfl lk_RX5_52 ls_X5_set lz_X5_set li_RX5 lc_X5_set hv_X5_set ⟨Nat.le_trans hd_X5_set hR.1, Nat.le_trans (by have := hd_X5_set; omega) hR.2⟩ hcs, ?_⟩
  refine List.forall_mem_cons.mpr ⟨s_iconst (pc := 31) X (n := 1) (by decide +kernel) (by decide), ?_⟩
  refine List.forall_mem_cons.mpr ⟨s_retZ (pc := 32) (by decide +kernel), ?_⟩
  exact fun _ h => absurd h List.not_mem_nil
def T_X5_swap_0 (E : Ex) (env : Nat → Mf) : List (Nat × Stq) := [(0, o_al 1 0),
  (1, o_il 2 1),
  (2, o_callV SH env 5 69 1 5),
  (5, o_eq0 16 8),
  (8, o_al 9 0),
  (9, o_il 10 2),
  (10, o_callV SH env 13 69 1 5),
  (13, o_ne0 18 16),
  (16, o_ic 17 (0)),
  (17, o_retZ),
  (18, o_ic 19 (0)),
  (19, o_is 20 3),
  (20, o_il 21 3),
  (21, o_ic 23 (16)),
  (23, o_ge 62 26),
  (26, o_al 27 0),
  (27, o_il 28 3),
  (28, o_callV SH env 31 68 1 5),
  (31, o_eq0 56 34),
  (34, o_al 35 0),
  (35, o_il 36 3),
  (36, o_ic 37 (2)),
  (37, o_callV SH env 40 66 2 5),
  (40, o_il 41 1),
  (41, o_le 54 44),
  (44, o_al 45 0),
  (45, o_il 46 3),
  (46, o_ic 47 (2)),
  (47, o_callV SH env 50 66 2 5),
  (50, o_il 51 2),
  (51, o_gt 56 54),
  (54, o_ic 55 (0)),
  (55, o_retZ),
  (56, o_inc 59 3 (1)),
  (59, o_goto 20),
  (62, o_al 63 0),
  (63, o_callV SH env 66 70 0 5),
  (66, o_ic 67 (0)),
  (67, o_is 68 3),
  (68, o_il 69 3)]
set_option maxRecDepth 100000 in
set_option maxHeartbeats 4000000 in
theorem ts_X5_swap_0 {p : Program} {l : Launch} {e : Env} {R : Room} {s : State} {m : MethodId} {args : Array Value} {below : List Frame} {meth : Method} {c : Code} {cells slots : Nat} {Q : State → Prop} {D : va_G} {C : CI3} {A : Nat → Prop} {ad : Nat → Nat} {E : Ex} {env : Nat → Mf} {d : Nat} (X : Cx p R s m args c cX5_swap 5 RX5 D C A ad SH E) (hR : d ≤ R.frames ∧ 100 * d ≤ R.locals) (hcs : cells ≤ R.cells ∧ slots ≤ R.slots) {d_X5_isColumn : Nat} (h_X5_isColumn : CM l SH E yX5_isColumn cX5_isColumn 2 (some .boolean) d_X5_isColumn (env 69)) (hd_X5_isColumn : d_X5_isColumn + 1 ≤ d) {d_X5_isRow : Nat} (h_X5_isRow : CM l SH E yX5_isRow cX5_isRow 2 (some .boolean) d_X5_isRow (env 68)) (hd_X5_isRow : d_X5_isRow + 1 ≤ d) {d_X5_get : Nat} (h_X5_get : CM l SH E yX5_get cX5_get 3 (some .int) d_X5_get (env 66)) (hd_X5_get : d_X5_get + 1 ≤ d) {d_X5_keep : Nat} (h_X5_keep : CM l SH E yX5_keep cX5_keep 2 (none) d_X5_keep (env 70)) (hd_X5_keep : d_X5_keep + 1 ≤ d) {d_X5_set : Nat} (h_X5_set : CM l SH E yX5_set cX5_set 4 (none) d_X5_set (env 67)) (hd_X5_set : d_X5_set + 1 ≤ d) : ∀ q ∈ T_X5_swap_0 E env, SS p l e R s m args below meth c cells slots Q D C A ad SH 5 cX5_swap (some .boolean) q.1 q.2 := by
  unfold T_X5_swap_0
  refine List.forall_mem_cons.mpr ⟨s_aload_n (pc := 0) X (i := 0) (by decide +kernel) rfl, ?_⟩
  refine List.forall_mem_cons.mpr ⟨s_iload_n (pc := 1) X (i := 1) (by decide +kernel) rfl, ?_⟩
  refine List.forall_mem_cons.mpr ⟨s_callV (pc := 2) X (idx := 60) (by decide +kernel) h_X5_isColumn rfl lk_RX5_60 ls_X5_isColumn lz_X5_isColumn li_RX5 lc_X5_isColumn hv_X5_isColumn ⟨Nat.le_trans hd_X5_isColumn hR.1, Nat.le_trans (by have := hd_X5_isColumn; omega) hR.2⟩ hcs, ?_⟩
  refine List.forall_mem_cons.mpr ⟨s_eq0 (pc := 5) X (off := 11) (by decide +kernel) (by decide), ?_⟩
  refine List.forall_mem_cons.mpr ⟨s_aload_n (pc := 8) X (i := 0) (by decide +kernel) rfl, ?_⟩
  refine List.forall_mem_cons.mpr ⟨s_iload_n (pc := 9) X (i := 2) (by decide +kernel) rfl, ?_⟩
  refine List.forall_mem_cons.mpr ⟨s_callV (pc := 10) X (idx := 60) (by decide +kernel) h_X5_isColumn rfl lk_RX5_60 ls_X5_isColumn lz_X5_isColumn li_RX5 lc_X5_isColumn hv_X5_isColumn ⟨Nat.le_trans hd_X5_isColumn hR.1, Nat.le_trans (by have := hd_X5_isColumn; omega) hR.2⟩ hcs, ?_⟩
  refine List.forall_mem_cons.mpr ⟨s_ne0 (pc := 13) X (off := 5) (by decide +kernel) (by decide), ?_⟩
  refine List.forall_mem_cons.mpr ⟨s_iconst (pc := 16) X (n := 0) (by decide +kernel) (by decide), ?_⟩
  refine List.forall_mem_cons.mpr ⟨s_retZ (pc := 17) (by decide +kernel), ?_⟩
  refine List.forall_mem_cons.mpr ⟨s_iconst (pc := 18) X (n := 0) (by decide +kernel) (by decide), ?_⟩
  refine List.forall_mem_cons.mpr ⟨s_istore_n (pc := 19) X (i := 3) (by decide +kernel) rfl (by decide), ?_⟩
  refine List.forall_mem_cons.mpr ⟨s_iload_n (pc := 20) X (i := 3) (by decide +kernel) rfl, ?_⟩
  refine List.forall_mem_cons.mpr ⟨s_bipush (pc := 21) X (n := 16) (by decide +kernel) (by decide), ?_⟩
  refine List.forall_mem_cons.mpr ⟨s_ge (pc := 23) X (off := 39) (by decide +kernel) (by decide), ?_⟩
  refine List.forall_mem_cons.mpr ⟨s_aload_n (pc := 26) X (i := 0) (by decide +kernel) rfl, ?_⟩
  refine List.forall_mem_cons.mpr ⟨s_iload_n (pc := 27) X (i := 3) (by decide +kernel) rfl, ?_⟩
  refine List.forall_mem_cons.mpr ⟨s_callV (pc := 28) X (idx := 56) (by decide +kernel) h_X5_isRow rfl lk_RX5_56 ls_X5_isRow lz_X5_isRow li_RX5 lc_X5_isRow hv_X5_isRow ⟨Nat.le_trans hd_X5_isRow hR.1, Nat.le_trans (by have := hd_X5_isRow; omega) hR.2⟩ hcs, ?_⟩
  refine List.forall_mem_cons.mpr ⟨s_eq0 (pc := 31) X (off := 25) (by decide +kernel) (by decide), ?_⟩
  refine List.forall_mem_cons.mpr ⟨s_aload_n (pc := 34) X (i := 0) (by decide +kernel) rfl, ?_⟩
  refine List.forall_mem_cons.mpr ⟨s_iload_n (pc := 35) X (i := 3) (by decide +kernel) rfl, ?_⟩
  refine List.forall_mem_cons.mpr ⟨s_iconst (pc := 36) X (n := 2) (by decide +kernel) (by decide), ?_⟩
  refine List.forall_mem_cons.mpr ⟨s_callV (pc := 37) X (idx := 33) (by decide +kernel) h_X5_get rfl lk_RX5_33 ls_X5_get lz_X5_get li_RX5 lc_X5_get hv_X5_get ⟨Nat.le_trans hd_X5_get hR.1, Nat.le_trans (by have := hd_X5_get; omega) hR.2⟩ hcs, ?_⟩
  refine List.forall_mem_cons.mpr ⟨s_iload_n (pc := 40) X (i := 1) (by decide +kernel) rfl, ?_⟩
  refine List.forall_mem_cons.mpr ⟨s_le (pc := 41) X (off := 13) (by decide +kernel) (by decide), ?_⟩
  refine List.forall_mem_cons.mpr ⟨s_aload_n (pc := 44) X (i := 0) (by decide +kernel) rfl, ?_⟩
  refine List.forall_mem_cons.mpr ⟨s_iload_n (pc := 45) X (i := 3) (by decide +kernel) rfl, ?_⟩
  refine List.forall_mem_cons.mpr ⟨s_iconst (pc := 46) X (n := 2) (by decide +kernel) (by decide), ?_⟩
  refine List.forall_mem_cons.mpr ⟨s_callV (pc := 47) X (idx := 33) (by decide +kernel) h_X5_get rfl lk_RX5_33 ls_X5_get lz_X5_get li_RX5 lc_X5_get hv_X5_get ⟨Nat.le_trans hd_X5_get hR.1, Nat.le_trans (by have := hd_X5_get; omega) hR.2⟩ hcs, ?_⟩
  refine List.forall_mem_cons.mpr ⟨s_iload_n (pc := 50) X (i := 2) (by decide +kernel) rfl, ?_⟩
  refine List.forall_mem_cons.mpr ⟨s_gt (pc := 51) X (off := 5) (by decide +kernel) (by decide), ?_⟩
  refine List.forall_mem_cons.mpr ⟨s_iconst (pc := 54) X (n := 0) (by decide +kernel) (by decide), ?_⟩
  refine List.forall_mem_cons.mpr ⟨s_retZ (pc := 55) (by decide +kernel), ?_⟩
  refine List.forall_mem_cons.mpr ⟨s_iinc (pc := 56) X (n := 1) (by decide +kernel) (by decide) (by decide), ?_⟩
  refine List.forall_mem_cons.mpr ⟨s_goto (pc := 59) X (off := -39) (by decide +kernel) (by decide), ?_⟩
  refine List.forall_mem_cons.mpr ⟨s_aload_n (pc := 62) X (i := 0) (by decide +kernel) rfl, ?_⟩
  refine List.forall_mem_cons.mpr ⟨s_callV (pc := 63) X (idx := 45) (by decide +kernel) h_X5_keep rfl lk_RX5_45 ls_X5_keep lz_X5_keep li_RX5 lc_X5_keep hv_X5_keep ⟨Nat.le_trans hd_X5_keep hR.1, Nat.le_trans (by have := hd_X5_keep; omega) hR.2⟩ hcs, ?_⟩
  refine List.forall_mem_cons.mpr ⟨s_iconst (pc := 66) X (n := 0) (by decide +kernel) (by decide), ?_⟩
  refine List.forall_mem_cons.mpr ⟨s_istore_n (pc := 67) X (i := 3) (by decide +kernel) rfl (by decide), ?_⟩
  refine List.forall_mem_cons.mpr ⟨s_iload_n (pc := 68) X (i := 3) (by decide +kernel) rfl, ?_⟩
  exact fun _ h => absurd h List.not_mem_nil
def T_X5_swap_1 (E : Ex) (env : Nat → Mf) : List (Nat × Stq) := [(69, o_ic 71 (16)),
  (71, o_ge 127 74),
  (74, o_al 75 0),
  (75, o_il 76 3),
  (76, o_callV SH env 79 68 1 5),
  (79, o_ne0 85 82),
  (82, o_goto 121),
  (85, o_al 86 0),
  (86, o_il 87 3),
  (87, o_ic 88 (4)),
  (88, o_il 89 1),
  (89, o_b2 90 (fun x y => x + y)),
  (90, o_callV SH env 93 66 2 5),
  (93, o_is 95 4),
  (95, o_al 96 0),
  (96, o_il 97 3),
  (97, o_ic 98 (4)),
  (98, o_il 99 1),
  (99, o_b2 100 (fun x y => x + y)),
  (100, o_al 101 0),
  (101, o_il 102 3),
  (102, o_ic 103 (4)),
  (103, o_il 104 2),
  (104, o_b2 105 (fun x y => x + y)),
  (105, o_callV SH env 108 66 2 5),
  (108, o_callV SH env 111 67 3 5),
  (111, o_al 112 0),
  (112, o_il 113 3),
  (113, o_ic 114 (4)),
  (114, o_il 115 2),
  (115, o_b2 116 (fun x y => x + y)),
  (116, o_il 118 4),
  (118, o_callV SH env 121 67 3 5),
  (121, o_inc 124 3 (1)),
  (124, o_goto 68),
  (127, o_ic 128 (1)),
  (128, o_retZ)]
set_option maxRecDepth 100000 in
set_option maxHeartbeats 4000000 in
theorem ts_X5_swap_1 {p : Program} {l : Launch} {e : Env} {R : Room} {s : State} {m : MethodId} {args : Array Value} {below : List Frame} {meth : Method} {c : Code} {cells slots : Nat} {Q : State → Prop} {D : va_G} {C : CI3} {A : Nat → Prop} {ad : Nat → Nat} {E : Ex} {env : Nat → Mf} {d : Nat} (X : Cx p R s m args c cX5_swap 5 RX5 D C A ad SH E) (hR : d ≤ R.frames ∧ 100 * d ≤ R.locals) (hcs : cells ≤ R.cells ∧ slots ≤ R.slots) {d_X5_isColumn : Nat} (h_X5_isColumn : CM l SH E yX5_isColumn cX5_isColumn 2 (some .boolean) d_X5_isColumn (env 69)) (hd_X5_isColumn : d_X5_isColumn + 1 ≤ d) {d_X5_isRow : Nat} (h_X5_isRow : CM l SH E yX5_isRow cX5_isRow 2 (some .boolean) d_X5_isRow (env 68)) (hd_X5_isRow : d_X5_isRow + 1 ≤ d) {d_X5_get : Nat} (h_X5_get : CM l SH E yX5_get cX5_get 3 (some .int) d_X5_get (env 66)) (hd_X5_get : d_X5_get + 1 ≤ d) {d_X5_keep : Nat} (h_X5_keep : CM l SH E yX5_keep cX5_keep 2 (none) d_X5_keep (env 70)) (hd_X5_keep : d_X5_keep + 1 ≤ d) {d_X5_set : Nat} (h_X5_set : CM l SH E yX5_set cX5_set 4 (none) d_X5_set (env 67)) (hd_X5_set : d_X5_set + 1 ≤ d) : ∀ q ∈ T_X5_swap_1 E env, SS p l e R s m args below meth c cells slots Q D C A ad SH 5 cX5_swap (some .boolean) q.1 q.2 := by
  unfold T_X5_swap_1
  refine List.forall_mem_cons.mpr ⟨s_bipush (pc := 69) X (n := 16) (by decide +kernel) (by decide), ?_⟩
  refine List.forall_mem_cons.mpr ⟨s_ge (pc := 71) X (off := 56) (by decide +kernel) (by decide), ?_⟩
  refine List.forall_mem_cons.mpr ⟨s_aload_n (pc := 74) X (i := 0) (by decide +kernel) rfl, ?_⟩
  refine List.forall_mem_cons.mpr ⟨s_iload_n (pc := 75) X (i := 3) (by decide +kernel) rfl, ?_⟩
  refine List.forall_mem_cons.mpr ⟨s_callV (pc := 76) X (idx := 56) (by decide +kernel) h_X5_isRow rfl lk_RX5_56 ls_X5_isRow lz_X5_isRow li_RX5 lc_X5_isRow hv_X5_isRow ⟨Nat.le_trans hd_X5_isRow hR.1, Nat.le_trans (by have := hd_X5_isRow; omega) hR.2⟩ hcs, ?_⟩
  refine List.forall_mem_cons.mpr ⟨s_ne0 (pc := 79) X (off := 6) (by decide +kernel) (by decide), ?_⟩
  refine List.forall_mem_cons.mpr ⟨s_goto (pc := 82) X (off := 39) (by decide +kernel) (by decide), ?_⟩
  refine List.forall_mem_cons.mpr ⟨s_aload_n (pc := 85) X (i := 0) (by decide +kernel) rfl, ?_⟩
  refine List.forall_mem_cons.mpr ⟨s_iload_n (pc := 86) X (i := 3) (by decide +kernel) rfl, ?_⟩
  refine List.forall_mem_cons.mpr ⟨s_iconst (pc := 87) X (n := 4) (by decide +kernel) (by decide), ?_⟩
  refine List.forall_mem_cons.mpr ⟨s_iload_n (pc := 88) X (i := 1) (by decide +kernel) rfl, ?_⟩
  refine List.forall_mem_cons.mpr ⟨s_iadd (pc := 89) X (by decide +kernel), ?_⟩
  refine List.forall_mem_cons.mpr ⟨s_callV (pc := 90) X (idx := 33) (by decide +kernel) h_X5_get rfl lk_RX5_33 ls_X5_get lz_X5_get li_RX5 lc_X5_get hv_X5_get ⟨Nat.le_trans hd_X5_get hR.1, Nat.le_trans (by have := hd_X5_get; omega) hR.2⟩ hcs, ?_⟩
  refine List.forall_mem_cons.mpr ⟨s_istore (pc := 93) X (by decide +kernel) (by decide), ?_⟩
  refine List.forall_mem_cons.mpr ⟨s_aload_n (pc := 95) X (i := 0) (by decide +kernel) rfl, ?_⟩
  refine List.forall_mem_cons.mpr ⟨s_iload_n (pc := 96) X (i := 3) (by decide +kernel) rfl, ?_⟩
  refine List.forall_mem_cons.mpr ⟨s_iconst (pc := 97) X (n := 4) (by decide +kernel) (by decide), ?_⟩
  refine List.forall_mem_cons.mpr ⟨s_iload_n (pc := 98) X (i := 1) (by decide +kernel) rfl, ?_⟩
  refine List.forall_mem_cons.mpr ⟨s_iadd (pc := 99) X (by decide +kernel), ?_⟩
  refine List.forall_mem_cons.mpr ⟨s_aload_n (pc := 100) X (i := 0) (by decide +kernel) rfl, ?_⟩
  refine List.forall_mem_cons.mpr ⟨s_iload_n (pc := 101) X (i := 3) (by decide +kernel) rfl, ?_⟩
  refine List.forall_mem_cons.mpr ⟨s_iconst (pc := 102) X (n := 4) (by decide +kernel) (by decide), ?_⟩
  refine List.forall_mem_cons.mpr ⟨s_iload_n (pc := 103) X (i := 2) (by decide +kernel) rfl, ?_⟩
  refine List.forall_mem_cons.mpr ⟨s_iadd (pc := 104) X (by decide +kernel), ?_⟩
  refine List.forall_mem_cons.mpr ⟨s_callV (pc := 105) X (idx := 33) (by decide +kernel) h_X5_get rfl lk_RX5_33 ls_X5_get lz_X5_get li_RX5 lc_X5_get hv_X5_get ⟨Nat.le_trans hd_X5_get hR.1, Nat.le_trans (by have := hd_X5_get; omega) hR.2⟩ hcs, ?_⟩
  refine List.forall_mem_cons.mpr ⟨s_callV (pc := 108) X (idx := 52) (by decide +kernel) h_X5_set rfl lk_RX5_52 ls_X5_set lz_X5_set li_RX5 lc_X5_set hv_X5_set ⟨Nat.le_trans hd_X5_set hR.1, Nat.le_trans (by have := hd_X5_set; omega) hR.2⟩ hcs, ?_⟩
  refine List.forall_mem_cons.mpr ⟨s_aload_n (pc := 111) X (i := 0) (by decide +kernel) rfl, ?_⟩
  refine List.forall_mem_cons.mpr ⟨s_iload_n (pc := 112) X (i := 3) (by decide +kernel) rfl, ?_⟩
  refine List.forall_mem_cons.mpr ⟨s_iconst (pc := 113) X (n := 4) (by decide +kernel) (by decide), ?_⟩
  refine List.forall_mem_cons.mpr ⟨s_iload_n (pc := 114) X (i := 2) (by decide +kernel) rfl, ?_⟩
  refine List.forall_mem_cons.mpr ⟨s_iadd (pc := 115) X (by decide +kernel), ?_⟩
  refine List.forall_mem_cons.mpr ⟨s_iload (pc := 116) X (by decide +kernel), ?_⟩
  refine List.forall_mem_cons.mpr ⟨s_callV (pc := 118) X (idx := 52) (by decide +kernel) h_X5_set rfl lk_RX5_52 ls_X5_set lz_X5_set li_RX5 lc_X5_set hv_X5_set ⟨Nat.le_trans hd_X5_set hR.1, Nat.le_trans (by have := hd_X5_set; omega) hR.2⟩ hcs, ?_⟩
  refine List.forall_mem_cons.mpr ⟨s_iinc (pc := 121) X (n := 1) (by decide +kernel) (by decide) (by decide), ?_⟩
  refine List.forall_mem_cons.mpr ⟨s_goto (pc := 124) X (off := -56) (by decide +kernel) (by decide), ?_⟩
  refine List.forall_mem_cons.mpr ⟨s_iconst (pc := 127) X (n := 1) (by decide +kernel) (by decide), ?_⟩
  refine List.forall_mem_cons.mpr ⟨s_retZ (pc := 128) (by decide +kernel), ?_⟩
  exact fun _ h => absurd h List.not_mem_nil
def T_X5_swap (E : Ex) (env : Nat → Mf) : List (Nat × Stq) := T_X5_swap_0 E env ++ (T_X5_swap_1 E env)
theorem ts_X5_swap {p : Program} {l : Launch} {e : Env} {R : Room} {s : State} {m : MethodId} {args : Array Value} {below : List Frame} {meth : Method} {c : Code} {cells slots : Nat} {Q : State → Prop} {D : va_G} {C : CI3} {A : Nat → Prop} {ad : Nat → Nat} {E : Ex} {env : Nat → Mf} {d : Nat} (X : Cx p R s m args c cX5_swap 5 RX5 D C A ad SH E) (hR : d ≤ R.frames ∧ 100 * d ≤ R.locals) (hcs : cells ≤ R.cells ∧ slots ≤ R.slots) {d_X5_isColumn : Nat} (h_X5_isColumn : CM l SH E yX5_isColumn cX5_isColumn 2 (some .boolean) d_X5_isColumn (env 69)) (hd_X5_isColumn : d_X5_isColumn + 1 ≤ d) {d_X5_isRow : Nat} (h_X5_isRow : CM l SH E yX5_isRow cX5_isRow 2 (some .boolean) d_X5_isRow (env 68)) (hd_X5_isRow : d_X5_isRow + 1 ≤ d) {d_X5_get : Nat} (h_X5_get : CM l SH E yX5_get cX5_get 3 (some .int) d_X5_get (env 66)) (hd_X5_get : d_X5_get + 1 ≤ d) {d_X5_keep : Nat} (h_X5_keep : CM l SH E yX5_keep cX5_keep 2 (none) d_X5_keep (env 70)) (hd_X5_keep : d_X5_keep + 1 ≤ d) {d_X5_set : Nat} (h_X5_set : CM l SH E yX5_set cX5_set 4 (none) d_X5_set (env 67)) (hd_X5_set : d_X5_set + 1 ≤ d) : ∀ q ∈ T_X5_swap E env, SS p l e R s m args below meth c cells slots Q D C A ad SH 5 cX5_swap (some .boolean) q.1 q.2 := List.forall_mem_append.mpr ⟨ts_X5_swap_0 X hR hcs h_X5_isColumn hd_X5_isColumn h_X5_isRow hd_X5_isRow h_X5_get hd_X5_get h_X5_keep hd_X5_keep h_X5_set hd_X5_set, ts_X5_swap_1 X hR hcs h_X5_isColumn hd_X5_isColumn h_X5_isRow hd_X5_isRow h_X5_get hd_X5_get h_X5_keep hd_X5_keep h_X5_set hd_X5_set⟩
def T_X5_at (E : Ex) (env : Nat → Mf) : List (Nat × Stq) := [(0, o_al 1 0),
  (1, o_il 2 1),
  (2, o_callV SH env 5 68 1 5),
  (5, o_eq0 27 8),
  (8, o_al 9 0),
  (9, o_il 10 2),
  (10, o_callV SH env 13 69 1 5),
  (13, o_eq0 27 16),
  (16, o_al 17 0),
  (17, o_il 18 1),
  (18, o_ic 19 (4)),
  (19, o_il 20 2),
  (20, o_b2 21 (fun x y => x + y)),
  (21, o_callV SH env 24 66 2 5),
  (24, o_goto 30),
  (27, o_ic 30 (1001)),
  (30, o_ret)]
set_option maxRecDepth 100000 in
set_option maxHeartbeats 4000000 in
theorem ts_X5_at {p : Program} {l : Launch} {e : Env} {R : Room} {s : State} {m : MethodId} {args : Array Value} {below : List Frame} {meth : Method} {c : Code} {cells slots : Nat} {Q : State → Prop} {D : va_G} {C : CI3} {A : Nat → Prop} {ad : Nat → Nat} {E : Ex} {env : Nat → Mf} {d : Nat} (X : Cx p R s m args c cX5_at 3 RX5 D C A ad SH E) (hR : d ≤ R.frames ∧ 100 * d ≤ R.locals) (hcs : cells ≤ R.cells ∧ slots ≤ R.slots) {d_X5_isRow : Nat} (h_X5_isRow : CM l SH E yX5_isRow cX5_isRow 2 (some .boolean) d_X5_isRow (env 68)) (hd_X5_isRow : d_X5_isRow + 1 ≤ d) {d_X5_isColumn : Nat} (h_X5_isColumn : CM l SH E yX5_isColumn cX5_isColumn 2 (some .boolean) d_X5_isColumn (env 69)) (hd_X5_isColumn : d_X5_isColumn + 1 ≤ d) {d_X5_get : Nat} (h_X5_get : CM l SH E yX5_get cX5_get 3 (some .int) d_X5_get (env 66)) (hd_X5_get : d_X5_get + 1 ≤ d) : ∀ q ∈ T_X5_at E env, SS p l e R s m args below meth c cells slots Q D C A ad SH 3 cX5_at (some .int) q.1 q.2 := by
  unfold T_X5_at
  refine List.forall_mem_cons.mpr ⟨s_aload_n (pc := 0) X (i := 0) (by decide +kernel) rfl, ?_⟩
  refine List.forall_mem_cons.mpr ⟨s_iload_n (pc := 1) X (i := 1) (by decide +kernel) rfl, ?_⟩
  refine List.forall_mem_cons.mpr ⟨s_callV (pc := 2) X (idx := 56) (by decide +kernel) h_X5_isRow rfl lk_RX5_56 ls_X5_isRow lz_X5_isRow li_RX5 lc_X5_isRow hv_X5_isRow ⟨Nat.le_trans hd_X5_isRow hR.1, Nat.le_trans (by have := hd_X5_isRow; omega) hR.2⟩ hcs, ?_⟩
  refine List.forall_mem_cons.mpr ⟨s_eq0 (pc := 5) X (off := 22) (by decide +kernel) (by decide), ?_⟩
  refine List.forall_mem_cons.mpr ⟨s_aload_n (pc := 8) X (i := 0) (by decide +kernel) rfl, ?_⟩
  refine List.forall_mem_cons.mpr ⟨s_iload_n (pc := 9) X (i := 2) (by decide +kernel) rfl, ?_⟩
  refine List.forall_mem_cons.mpr ⟨s_callV (pc := 10) X (idx := 60) (by decide +kernel) h_X5_isColumn rfl lk_RX5_60 ls_X5_isColumn lz_X5_isColumn li_RX5 lc_X5_isColumn hv_X5_isColumn ⟨Nat.le_trans hd_X5_isColumn hR.1, Nat.le_trans (by have := hd_X5_isColumn; omega) hR.2⟩ hcs, ?_⟩
  refine List.forall_mem_cons.mpr ⟨s_eq0 (pc := 13) X (off := 14) (by decide +kernel) (by decide), ?_⟩
  refine List.forall_mem_cons.mpr ⟨s_aload_n (pc := 16) X (i := 0) (by decide +kernel) rfl, ?_⟩
  refine List.forall_mem_cons.mpr ⟨s_iload_n (pc := 17) X (i := 1) (by decide +kernel) rfl, ?_⟩
  refine List.forall_mem_cons.mpr ⟨s_iconst (pc := 18) X (n := 4) (by decide +kernel) (by decide), ?_⟩
  refine List.forall_mem_cons.mpr ⟨s_iload_n (pc := 19) X (i := 2) (by decide +kernel) rfl, ?_⟩
  refine List.forall_mem_cons.mpr ⟨s_iadd (pc := 20) X (by decide +kernel), ?_⟩
  refine List.forall_mem_cons.mpr ⟨s_callV (pc := 21) X (idx := 33) (by decide +kernel) h_X5_get rfl lk_RX5_33 ls_X5_get lz_X5_get li_RX5 lc_X5_get hv_X5_get ⟨Nat.le_trans hd_X5_get hR.1, Nat.le_trans (by have := hd_X5_get; omega) hR.2⟩ hcs, ?_⟩
  refine List.forall_mem_cons.mpr ⟨s_goto (pc := 24) X (off := 6) (by decide +kernel) (by decide), ?_⟩
  refine List.forall_mem_cons.mpr ⟨s_sipush (pc := 27) X (n := 1001) (by decide +kernel) (by decide), ?_⟩
  refine List.forall_mem_cons.mpr ⟨s_ret (pc := 30) rfl (by decide +kernel), ?_⟩
  exact fun _ h => absurd h List.not_mem_nil
def T_X5_row (E : Ex) (env : Nat → Mf) : List (Nat × Stq) := [(0, o_il 1 1),
  (1, o_ic 2 (0)),
  (2, o_ic 4 (15)),
  (4, o_call env 7 64 3),
  (7, o_ne0 12 10),
  (10, o_ic 11 (-1)),
  (11, o_ret),
  (12, o_il 13 2),
  (13, o_ne0 23 16),
  (16, o_al 17 0),
  (17, o_il 18 1),
  (18, o_ic 19 (0)),
  (19, o_callV SH env 22 66 2 5),
  (22, o_ret),
  (23, o_al 24 0),
  (24, o_il 25 1),
  (25, o_callV SH env 28 68 1 5),
  (28, o_eq0 67 31),
  (31, o_il 32 2),
  (32, o_ic 33 (1)),
  (33, o_ic 34 (3)),
  (34, o_call env 37 64 3),
  (37, o_eq0 67 40),
  (40, o_al 41 0),
  (41, o_il 42 1),
  (42, o_il 43 2),
  (43, o_ic 44 (1)),
  (44, o_ne 51 47),
  (47, o_ic 48 (1)),
  (48, o_goto 61),
  (51, o_il 52 2),
  (52, o_ic 53 (2)),
  (53, o_ne 60 56),
  (56, o_ic 57 (2)),
  (57, o_goto 61),
  (60, o_ic 61 (3)),
  (61, o_callV SH env 64 66 2 5),
  (64, o_goto 68),
  (67, o_ic 68 (-1)),
  (68, o_ret)]
set_option maxRecDepth 100000 in
set_option maxHeartbeats 4000000 in
theorem ts_X5_row {p : Program} {l : Launch} {e : Env} {R : Room} {s : State} {m : MethodId} {args : Array Value} {below : List Frame} {meth : Method} {c : Code} {cells slots : Nat} {Q : State → Prop} {D : va_G} {C : CI3} {A : Nat → Prop} {ad : Nat → Nat} {E : Ex} {env : Nat → Mf} {d : Nat} (X : Cx p R s m args c cX5_row 3 RX5 D C A ad SH E) (hR : d ≤ R.frames ∧ 100 * d ≤ R.locals) (hcs : cells ≤ R.cells ∧ slots ≤ R.slots) {d_X5_isIn : Nat} (h_X5_isIn : CM l SH E yX5_isIn cX5_isIn 3 (some .boolean) d_X5_isIn (env 64)) (hd_X5_isIn : d_X5_isIn + 1 ≤ d) {d_X5_get : Nat} (h_X5_get : CM l SH E yX5_get cX5_get 3 (some .int) d_X5_get (env 66)) (hd_X5_get : d_X5_get + 1 ≤ d) {d_X5_isRow : Nat} (h_X5_isRow : CM l SH E yX5_isRow cX5_isRow 2 (some .boolean) d_X5_isRow (env 68)) (hd_X5_isRow : d_X5_isRow + 1 ≤ d) : ∀ q ∈ T_X5_row E env, SS p l e R s m args below meth c cells slots Q D C A ad SH 3 cX5_row (some .int) q.1 q.2 := by
  unfold T_X5_row
  refine List.forall_mem_cons.mpr ⟨s_iload_n (pc := 0) X (i := 1) (by decide +kernel) rfl, ?_⟩
  refine List.forall_mem_cons.mpr ⟨s_iconst (pc := 1) X (n := 0) (by decide +kernel) (by decide), ?_⟩
  refine List.forall_mem_cons.mpr ⟨s_bipush (pc := 2) X (n := 15) (by decide +kernel) (by decide), ?_⟩
  refine List.forall_mem_cons.mpr ⟨s_callS (pc := 4) X (idx := 29) (by decide +kernel) h_X5_isIn lk_RX5_29 ls_X5_isIn li_RX5 lc_X5_isIn hy_X5_isIn ⟨Nat.le_trans hd_X5_isIn hR.1, Nat.le_trans (by have := hd_X5_isIn; omega) hR.2⟩ hcs, ?_⟩
  refine List.forall_mem_cons.mpr ⟨s_ne0 (pc := 7) X (off := 5) (by decide +kernel) (by decide), ?_⟩
  refine List.forall_mem_cons.mpr ⟨s_iconst (pc := 10) X (n := -1) (by decide +kernel) (by decide), ?_⟩
  refine List.forall_mem_cons.mpr ⟨s_ret (pc := 11) rfl (by decide +kernel), ?_⟩
  refine List.forall_mem_cons.mpr ⟨s_iload_n (pc := 12) X (i := 2) (by decide +kernel) rfl, ?_⟩
  refine List.forall_mem_cons.mpr ⟨s_ne0 (pc := 13) X (off := 10) (by decide +kernel) (by decide), ?_⟩
  refine List.forall_mem_cons.mpr ⟨s_aload_n (pc := 16) X (i := 0) (by decide +kernel) rfl, ?_⟩
  refine List.forall_mem_cons.mpr ⟨s_iload_n (pc := 17) X (i := 1) (by decide +kernel) rfl, ?_⟩
  refine List.forall_mem_cons.mpr ⟨s_iconst (pc := 18) X (n := 0) (by decide +kernel) (by decide), ?_⟩
  refine List.forall_mem_cons.mpr ⟨s_callV (pc := 19) X (idx := 33) (by decide +kernel) h_X5_get rfl lk_RX5_33 ls_X5_get lz_X5_get li_RX5 lc_X5_get hv_X5_get ⟨Nat.le_trans hd_X5_get hR.1, Nat.le_trans (by have := hd_X5_get; omega) hR.2⟩ hcs, ?_⟩
  refine List.forall_mem_cons.mpr ⟨s_ret (pc := 22) rfl (by decide +kernel), ?_⟩
  refine List.forall_mem_cons.mpr ⟨s_aload_n (pc := 23) X (i := 0) (by decide +kernel) rfl, ?_⟩
  refine List.forall_mem_cons.mpr ⟨s_iload_n (pc := 24) X (i := 1) (by decide +kernel) rfl, ?_⟩
  refine List.forall_mem_cons.mpr ⟨s_callV (pc := 25) X (idx := 56) (by decide +kernel) h_X5_isRow rfl lk_RX5_56 ls_X5_isRow lz_X5_isRow li_RX5 lc_X5_isRow hv_X5_isRow ⟨Nat.le_trans hd_X5_isRow hR.1, Nat.le_trans (by have := hd_X5_isRow; omega) hR.2⟩ hcs, ?_⟩
  refine List.forall_mem_cons.mpr ⟨s_eq0 (pc := 28) X (off := 39) (by decide +kernel) (by decide), ?_⟩
  refine List.forall_mem_cons.mpr ⟨s_iload_n (pc := 31) X (i := 2) (by decide +kernel) rfl, ?_⟩
  refine List.forall_mem_cons.mpr ⟨s_iconst (pc := 32) X (n := 1) (by decide +kernel) (by decide), ?_⟩
  refine List.forall_mem_cons.mpr ⟨s_iconst (pc := 33) X (n := 3) (by decide +kernel) (by decide), ?_⟩
  refine List.forall_mem_cons.mpr ⟨s_callS (pc := 34) X (idx := 29) (by decide +kernel) h_X5_isIn lk_RX5_29 ls_X5_isIn li_RX5 lc_X5_isIn hy_X5_isIn ⟨Nat.le_trans hd_X5_isIn hR.1, Nat.le_trans (by have := hd_X5_isIn; omega) hR.2⟩ hcs, ?_⟩
  refine List.forall_mem_cons.mpr ⟨s_eq0 (pc := 37) X (off := 30) (by decide +kernel) (by decide), ?_⟩
  refine List.forall_mem_cons.mpr ⟨s_aload_n (pc := 40) X (i := 0) (by decide +kernel) rfl, ?_⟩
  refine List.forall_mem_cons.mpr ⟨s_iload_n (pc := 41) X (i := 1) (by decide +kernel) rfl, ?_⟩
  refine List.forall_mem_cons.mpr ⟨s_iload_n (pc := 42) X (i := 2) (by decide +kernel) rfl, ?_⟩
  refine List.forall_mem_cons.mpr ⟨s_iconst (pc := 43) X (n := 1) (by decide +kernel) (by decide), ?_⟩
  refine List.forall_mem_cons.mpr ⟨s_ne (pc := 44) X (off := 7) (by decide +kernel) (by decide), ?_⟩
  refine List.forall_mem_cons.mpr ⟨s_iconst (pc := 47) X (n := 1) (by decide +kernel) (by decide), ?_⟩
  refine List.forall_mem_cons.mpr ⟨s_goto (pc := 48) X (off := 13) (by decide +kernel) (by decide), ?_⟩
  refine List.forall_mem_cons.mpr ⟨s_iload_n (pc := 51) X (i := 2) (by decide +kernel) rfl, ?_⟩
  refine List.forall_mem_cons.mpr ⟨s_iconst (pc := 52) X (n := 2) (by decide +kernel) (by decide), ?_⟩
  refine List.forall_mem_cons.mpr ⟨s_ne (pc := 53) X (off := 7) (by decide +kernel) (by decide), ?_⟩
  refine List.forall_mem_cons.mpr ⟨s_iconst (pc := 56) X (n := 2) (by decide +kernel) (by decide), ?_⟩
  refine List.forall_mem_cons.mpr ⟨s_goto (pc := 57) X (off := 4) (by decide +kernel) (by decide), ?_⟩
  refine List.forall_mem_cons.mpr ⟨s_iconst (pc := 60) X (n := 3) (by decide +kernel) (by decide), ?_⟩
  refine List.forall_mem_cons.mpr ⟨s_callV (pc := 61) X (idx := 33) (by decide +kernel) h_X5_get rfl lk_RX5_33 ls_X5_get lz_X5_get li_RX5 lc_X5_get hv_X5_get ⟨Nat.le_trans hd_X5_get hR.1, Nat.le_trans (by have := hd_X5_get; omega) hR.2⟩ hcs, ?_⟩
  refine List.forall_mem_cons.mpr ⟨s_goto (pc := 64) X (off := 4) (by decide +kernel) (by decide), ?_⟩
  refine List.forall_mem_cons.mpr ⟨s_iconst (pc := 67) X (n := -1) (by decide +kernel) (by decide), ?_⟩
  refine List.forall_mem_cons.mpr ⟨s_ret (pc := 68) rfl (by decide +kernel), ?_⟩
  exact fun _ h => absurd h List.not_mem_nil
def T_X5_step (E : Ex) (env : Nat → Mf) : List (Nat × Stq) := [(0, o_al 1 0),
  (1, o_il 2 1),
  (2, o_ic 3 (4)),
  (3, o_il 4 3),
  (4, o_b2 5 (fun x y => x + y)),
  (5, o_callV SH env 8 66 2 5),
  (8, o_is 10 4),
  (10, o_al 11 0),
  (11, o_il 12 2),
  (12, o_ic 13 (4)),
  (13, o_il 14 3),
  (14, o_b2 15 (fun x y => x + y)),
  (15, o_callV SH env 18 66 2 5),
  (18, o_is 20 5),
  (20, o_il 22 4),
  (22, o_ic 25 (1000)),
  (25, o_eq 36 28),
  (28, o_il 30 5),
  (30, o_ic 33 (1000)),
  (33, o_ne 40 36),
  (36, o_ic 37 (2)),
  (37, o_goto 63),
  (40, o_il 42 4),
  (42, o_il 44 5),
  (44, o_ne 51 47),
  (47, o_ic 48 (1)),
  (48, o_goto 63),
  (51, o_il 53 4),
  (53, o_il 55 5),
  (55, o_ge 62 58),
  (58, o_ic 59 (3)),
  (59, o_goto 63),
  (62, o_ic 63 (4)),
  (63, o_ret)]
set_option maxRecDepth 100000 in
set_option maxHeartbeats 4000000 in
theorem ts_X5_step {p : Program} {l : Launch} {e : Env} {R : Room} {s : State} {m : MethodId} {args : Array Value} {below : List Frame} {meth : Method} {c : Code} {cells slots : Nat} {Q : State → Prop} {D : va_G} {C : CI3} {A : Nat → Prop} {ad : Nat → Nat} {E : Ex} {env : Nat → Mf} {d : Nat} (X : Cx p R s m args c cX5_step 6 RX5 D C A ad SH E) (hR : d ≤ R.frames ∧ 100 * d ≤ R.locals) (hcs : cells ≤ R.cells ∧ slots ≤ R.slots) {d_X5_get : Nat} (h_X5_get : CM l SH E yX5_get cX5_get 3 (some .int) d_X5_get (env 66)) (hd_X5_get : d_X5_get + 1 ≤ d) : ∀ q ∈ T_X5_step E env, SS p l e R s m args below meth c cells slots Q D C A ad SH 6 cX5_step (some .int) q.1 q.2 := by
  unfold T_X5_step
  refine List.forall_mem_cons.mpr ⟨s_aload_n (pc := 0) X (i := 0) (by decide +kernel) rfl, ?_⟩
  refine List.forall_mem_cons.mpr ⟨s_iload_n (pc := 1) X (i := 1) (by decide +kernel) rfl, ?_⟩
  refine List.forall_mem_cons.mpr ⟨s_iconst (pc := 2) X (n := 4) (by decide +kernel) (by decide), ?_⟩
  refine List.forall_mem_cons.mpr ⟨s_iload_n (pc := 3) X (i := 3) (by decide +kernel) rfl, ?_⟩
  refine List.forall_mem_cons.mpr ⟨s_iadd (pc := 4) X (by decide +kernel), ?_⟩
  refine List.forall_mem_cons.mpr ⟨s_callV (pc := 5) X (idx := 33) (by decide +kernel) h_X5_get rfl lk_RX5_33 ls_X5_get lz_X5_get li_RX5 lc_X5_get hv_X5_get ⟨Nat.le_trans hd_X5_get hR.1, Nat.le_trans (by have := hd_X5_get; omega) hR.2⟩ hcs, ?_⟩
  refine List.forall_mem_cons.mpr ⟨s_istore (pc := 8) X (by decide +kernel) (by decide), ?_⟩
  refine List.forall_mem_cons.mpr ⟨s_aload_n (pc := 10) X (i := 0) (by decide +kernel) rfl, ?_⟩
  refine List.forall_mem_cons.mpr ⟨s_iload_n (pc := 11) X (i := 2) (by decide +kernel) rfl, ?_⟩
  refine List.forall_mem_cons.mpr ⟨s_iconst (pc := 12) X (n := 4) (by decide +kernel) (by decide), ?_⟩
  refine List.forall_mem_cons.mpr ⟨s_iload_n (pc := 13) X (i := 3) (by decide +kernel) rfl, ?_⟩
  refine List.forall_mem_cons.mpr ⟨s_iadd (pc := 14) X (by decide +kernel), ?_⟩
  refine List.forall_mem_cons.mpr ⟨s_callV (pc := 15) X (idx := 33) (by decide +kernel) h_X5_get rfl lk_RX5_33 ls_X5_get lz_X5_get li_RX5 lc_X5_get hv_X5_get ⟨Nat.le_trans hd_X5_get hR.1, Nat.le_trans (by have := hd_X5_get; omega) hR.2⟩ hcs, ?_⟩
  refine List.forall_mem_cons.mpr ⟨s_istore (pc := 18) X (by decide +kernel) (by decide), ?_⟩
  refine List.forall_mem_cons.mpr ⟨s_iload (pc := 20) X (by decide +kernel), ?_⟩
  refine List.forall_mem_cons.mpr ⟨s_sipush (pc := 22) X (n := 1000) (by decide +kernel) (by decide), ?_⟩
  refine List.forall_mem_cons.mpr ⟨s_eq (pc := 25) X (off := 11) (by decide +kernel) (by decide), ?_⟩
  refine List.forall_mem_cons.mpr ⟨s_iload (pc := 28) X (by decide +kernel), ?_⟩
  refine List.forall_mem_cons.mpr ⟨s_sipush (pc := 30) X (n := 1000) (by decide +kernel) (by decide), ?_⟩
  refine List.forall_mem_cons.mpr ⟨s_ne (pc := 33) X (off := 7) (by decide +kernel) (by decide), ?_⟩
  refine List.forall_mem_cons.mpr ⟨s_iconst (pc := 36) X (n := 2) (by decide +kernel) (by decide), ?_⟩
  refine List.forall_mem_cons.mpr ⟨s_goto (pc := 37) X (off := 26) (by decide +kernel) (by decide), ?_⟩
  refine List.forall_mem_cons.mpr ⟨s_iload (pc := 40) X (by decide +kernel), ?_⟩
  refine List.forall_mem_cons.mpr ⟨s_iload (pc := 42) X (by decide +kernel), ?_⟩
  refine List.forall_mem_cons.mpr ⟨s_ne (pc := 44) X (off := 7) (by decide +kernel) (by decide), ?_⟩
  refine List.forall_mem_cons.mpr ⟨s_iconst (pc := 47) X (n := 1) (by decide +kernel) (by decide), ?_⟩
  refine List.forall_mem_cons.mpr ⟨s_goto (pc := 48) X (off := 15) (by decide +kernel) (by decide), ?_⟩
  refine List.forall_mem_cons.mpr ⟨s_iload (pc := 51) X (by decide +kernel), ?_⟩
  refine List.forall_mem_cons.mpr ⟨s_iload (pc := 53) X (by decide +kernel), ?_⟩
  refine List.forall_mem_cons.mpr ⟨s_ge (pc := 55) X (off := 7) (by decide +kernel) (by decide), ?_⟩
  refine List.forall_mem_cons.mpr ⟨s_iconst (pc := 58) X (n := 3) (by decide +kernel) (by decide), ?_⟩
  refine List.forall_mem_cons.mpr ⟨s_goto (pc := 59) X (off := 4) (by decide +kernel) (by decide), ?_⟩
  refine List.forall_mem_cons.mpr ⟨s_iconst (pc := 62) X (n := 4) (by decide +kernel) (by decide), ?_⟩
  refine List.forall_mem_cons.mpr ⟨s_ret (pc := 63) rfl (by decide +kernel), ?_⟩
  exact fun _ h => absurd h List.not_mem_nil
def T_X5_place (E : Ex) (env : Nat → Mf) : List (Nat × Stq) := [(0, o_il 1 0),
  (1, o_ne0 8 4),
  (4, o_ic 5 (1)),
  (5, o_goto 29),
  (8, o_il 9 0),
  (9, o_ic 10 (1)),
  (10, o_ne 17 13),
  (13, o_ic 14 (5)),
  (14, o_goto 29),
  (17, o_il 18 0),
  (18, o_ic 19 (2)),
  (19, o_ne 27 22),
  (22, o_ic 24 (25)),
  (24, o_goto 29),
  (27, o_ic 29 (125)),
  (29, o_ret)]
set_option maxRecDepth 100000 in
set_option maxHeartbeats 4000000 in
theorem ts_X5_place {p : Program} {l : Launch} {e : Env} {R : Room} {s : State} {m : MethodId} {args : Array Value} {below : List Frame} {meth : Method} {c : Code} {cells slots : Nat} {Q : State → Prop} {D : va_G} {C : CI3} {A : Nat → Prop} {ad : Nat → Nat} {E : Ex} {env : Nat → Mf} {d : Nat} (X : Cx p R s m args c cX5_place 1 RX5 D C A ad SH E) (hR : d ≤ R.frames ∧ 100 * d ≤ R.locals) (hcs : cells ≤ R.cells ∧ slots ≤ R.slots) : ∀ q ∈ T_X5_place E env, SS p l e R s m args below meth c cells slots Q D C A ad SH 1 cX5_place (some .int) q.1 q.2 := by
  unfold T_X5_place
  refine List.forall_mem_cons.mpr ⟨s_iload_n (pc := 0) X (i := 0) (by decide +kernel) rfl, ?_⟩
  refine List.forall_mem_cons.mpr ⟨s_ne0 (pc := 1) X (off := 7) (by decide +kernel) (by decide), ?_⟩
  refine List.forall_mem_cons.mpr ⟨s_iconst (pc := 4) X (n := 1) (by decide +kernel) (by decide), ?_⟩
  refine List.forall_mem_cons.mpr ⟨s_goto (pc := 5) X (off := 24) (by decide +kernel) (by decide), ?_⟩
  refine List.forall_mem_cons.mpr ⟨s_iload_n (pc := 8) X (i := 0) (by decide +kernel) rfl, ?_⟩
  refine List.forall_mem_cons.mpr ⟨s_iconst (pc := 9) X (n := 1) (by decide +kernel) (by decide), ?_⟩
  refine List.forall_mem_cons.mpr ⟨s_ne (pc := 10) X (off := 7) (by decide +kernel) (by decide), ?_⟩
  refine List.forall_mem_cons.mpr ⟨s_iconst (pc := 13) X (n := 5) (by decide +kernel) (by decide), ?_⟩
  refine List.forall_mem_cons.mpr ⟨s_goto (pc := 14) X (off := 15) (by decide +kernel) (by decide), ?_⟩
  refine List.forall_mem_cons.mpr ⟨s_iload_n (pc := 17) X (i := 0) (by decide +kernel) rfl, ?_⟩
  refine List.forall_mem_cons.mpr ⟨s_iconst (pc := 18) X (n := 2) (by decide +kernel) (by decide), ?_⟩
  refine List.forall_mem_cons.mpr ⟨s_ne (pc := 19) X (off := 8) (by decide +kernel) (by decide), ?_⟩
  refine List.forall_mem_cons.mpr ⟨s_bipush (pc := 22) X (n := 25) (by decide +kernel) (by decide), ?_⟩
  refine List.forall_mem_cons.mpr ⟨s_goto (pc := 24) X (off := 5) (by decide +kernel) (by decide), ?_⟩
  refine List.forall_mem_cons.mpr ⟨s_bipush (pc := 27) X (n := 125) (by decide +kernel) (by decide), ?_⟩
  refine List.forall_mem_cons.mpr ⟨s_ret (pc := 29) rfl (by decide +kernel), ?_⟩
  exact fun _ h => absurd h List.not_mem_nil
def T_X5_digit (E : Ex) (env : Nat → Mf) : List (Nat × Stq) := [(0, o_il 1 0),
  (1, o_il 2 1),
  (2, o_call env 5 82 1),
  (5, o_div 6),
  (6, o_ic 7 (5)),
  (7, o_rem 8),
  (8, o_ret)]
set_option maxRecDepth 100000 in
set_option maxHeartbeats 4000000 in
theorem ts_X5_digit {p : Program} {l : Launch} {e : Env} {R : Room} {s : State} {m : MethodId} {args : Array Value} {below : List Frame} {meth : Method} {c : Code} {cells slots : Nat} {Q : State → Prop} {D : va_G} {C : CI3} {A : Nat → Prop} {ad : Nat → Nat} {E : Ex} {env : Nat → Mf} {d : Nat} (X : Cx p R s m args c cX5_digit 2 RX5 D C A ad SH E) (hR : d ≤ R.frames ∧ 100 * d ≤ R.locals) (hcs : cells ≤ R.cells ∧ slots ≤ R.slots) {d_X5_place : Nat} (h_X5_place : CM l SH E yX5_place cX5_place 1 (some .int) d_X5_place (env 82)) (hd_X5_place : d_X5_place + 1 ≤ d) : ∀ q ∈ T_X5_digit E env, SS p l e R s m args below meth c cells slots Q D C A ad SH 2 cX5_digit (some .int) q.1 q.2 := by
  unfold T_X5_digit
  refine List.forall_mem_cons.mpr ⟨s_iload_n (pc := 0) X (i := 0) (by decide +kernel) rfl, ?_⟩
  refine List.forall_mem_cons.mpr ⟨s_iload_n (pc := 1) X (i := 1) (by decide +kernel) rfl, ?_⟩
  refine List.forall_mem_cons.mpr ⟨s_callS (pc := 2) X (idx := 63) (by decide +kernel) h_X5_place lk_RX5_63 ls_X5_place li_RX5 lc_X5_place hy_X5_place ⟨Nat.le_trans hd_X5_place hR.1, Nat.le_trans (by have := hd_X5_place; omega) hR.2⟩ hcs, ?_⟩
  refine List.forall_mem_cons.mpr ⟨s_idiv (pc := 5) X (by decide +kernel), ?_⟩
  refine List.forall_mem_cons.mpr ⟨s_iconst (pc := 6) X (n := 5) (by decide +kernel) (by decide), ?_⟩
  refine List.forall_mem_cons.mpr ⟨s_irem (pc := 7) X (by decide +kernel), ?_⟩
  refine List.forall_mem_cons.mpr ⟨s_ret (pc := 8) rfl (by decide +kernel), ?_⟩
  exact fun _ h => absurd h List.not_mem_nil
def T_X5_between0 (E : Ex) (env : Nat → Mf) : List (Nat × Stq) := [(0, o_ic 1 (0)),
  (1, o_is 2 3),
  (2, o_ic 3 (0)),
  (3, o_is 5 4),
  (5, o_il 7 4),
  (7, o_al 8 0),
  (8, o_callV SH env 11 65 0 5),
  (11, o_ge 37 14),
  (14, o_il 15 3),
  (15, o_il 17 4),
  (17, o_call env 20 82 1),
  (20, o_al 21 0),
  (21, o_il 22 1),
  (22, o_il 23 2),
  (23, o_il 25 4),
  (25, o_callV SH env 28 81 3 5),
  (28, o_b2 29 (fun x y => x * y)),
  (29, o_b2 30 (fun x y => x + y)),
  (30, o_is 31 3),
  (31, o_inc 34 4 (1)),
  (34, o_goto 5),
  (37, o_il 38 3),
  (38, o_ret)]
set_option maxRecDepth 100000 in
set_option maxHeartbeats 4000000 in
theorem ts_X5_between0 {p : Program} {l : Launch} {e : Env} {R : Room} {s : State} {m : MethodId} {args : Array Value} {below : List Frame} {meth : Method} {c : Code} {cells slots : Nat} {Q : State → Prop} {D : va_G} {C : CI3} {A : Nat → Prop} {ad : Nat → Nat} {E : Ex} {env : Nat → Mf} {d : Nat} (X : Cx p R s m args c cX5_between0 5 RX5 D C A ad SH E) (hR : d ≤ R.frames ∧ 100 * d ≤ R.locals) (hcs : cells ≤ R.cells ∧ slots ≤ R.slots) {d_X5_columns : Nat} (h_X5_columns : CM l SH E yX5_columns cX5_columns 1 (some .int) d_X5_columns (env 65)) (hd_X5_columns : d_X5_columns + 1 ≤ d) {d_X5_place : Nat} (h_X5_place : CM l SH E yX5_place cX5_place 1 (some .int) d_X5_place (env 82)) (hd_X5_place : d_X5_place + 1 ≤ d) {d_X5_step : Nat} (h_X5_step : CM l SH E yX5_step cX5_step 6 (some .int) d_X5_step (env 81)) (hd_X5_step : d_X5_step + 1 ≤ d) : ∀ q ∈ T_X5_between0 E env, SS p l e R s m args below meth c cells slots Q D C A ad SH 5 cX5_between0 (some .int) q.1 q.2 := by
  unfold T_X5_between0
  refine List.forall_mem_cons.mpr ⟨s_iconst (pc := 0) X (n := 0) (by decide +kernel) (by decide), ?_⟩
  refine List.forall_mem_cons.mpr ⟨s_istore_n (pc := 1) X (i := 3) (by decide +kernel) rfl (by decide), ?_⟩
  refine List.forall_mem_cons.mpr ⟨s_iconst (pc := 2) X (n := 0) (by decide +kernel) (by decide), ?_⟩
  refine List.forall_mem_cons.mpr ⟨s_istore (pc := 3) X (by decide +kernel) (by decide), ?_⟩
  refine List.forall_mem_cons.mpr ⟨s_iload (pc := 5) X (by decide +kernel), ?_⟩
  refine List.forall_mem_cons.mpr ⟨s_aload_n (pc := 7) X (i := 0) (by decide +kernel) rfl, ?_⟩
  refine List.forall_mem_cons.mpr ⟨s_callV (pc := 8) X (idx := 37) (by decide +kernel) h_X5_columns rfl lk_RX5_37 ls_X5_columns lz_X5_columns li_RX5 lc_X5_columns hv_X5_columns ⟨Nat.le_trans hd_X5_columns hR.1, Nat.le_trans (by have := hd_X5_columns; omega) hR.2⟩ hcs, ?_⟩
  refine List.forall_mem_cons.mpr ⟨s_ge (pc := 11) X (off := 26) (by decide +kernel) (by decide), ?_⟩
  refine List.forall_mem_cons.mpr ⟨s_iload_n (pc := 14) X (i := 3) (by decide +kernel) rfl, ?_⟩
  refine List.forall_mem_cons.mpr ⟨s_iload (pc := 15) X (by decide +kernel), ?_⟩
  refine List.forall_mem_cons.mpr ⟨s_callS (pc := 17) X (idx := 63) (by decide +kernel) h_X5_place lk_RX5_63 ls_X5_place li_RX5 lc_X5_place hy_X5_place ⟨Nat.le_trans hd_X5_place hR.1, Nat.le_trans (by have := hd_X5_place; omega) hR.2⟩ hcs, ?_⟩
  refine List.forall_mem_cons.mpr ⟨s_aload_n (pc := 20) X (i := 0) (by decide +kernel) rfl, ?_⟩
  refine List.forall_mem_cons.mpr ⟨s_iload_n (pc := 21) X (i := 1) (by decide +kernel) rfl, ?_⟩
  refine List.forall_mem_cons.mpr ⟨s_iload_n (pc := 22) X (i := 2) (by decide +kernel) rfl, ?_⟩
  refine List.forall_mem_cons.mpr ⟨s_iload (pc := 23) X (by decide +kernel), ?_⟩
  refine List.forall_mem_cons.mpr ⟨s_callV (pc := 25) X (idx := 67) (by decide +kernel) h_X5_step rfl lk_RX5_67 ls_X5_step lz_X5_step li_RX5 lc_X5_step hv_X5_step ⟨Nat.le_trans hd_X5_step hR.1, Nat.le_trans (by have := hd_X5_step; omega) hR.2⟩ hcs, ?_⟩
  refine List.forall_mem_cons.mpr ⟨s_imul (pc := 28) X (by decide +kernel), ?_⟩
  refine List.forall_mem_cons.mpr ⟨s_iadd (pc := 29) X (by decide +kernel), ?_⟩
  refine List.forall_mem_cons.mpr ⟨s_istore_n (pc := 30) X (i := 3) (by decide +kernel) rfl (by decide), ?_⟩
  refine List.forall_mem_cons.mpr ⟨s_iinc (pc := 31) X (n := 1) (by decide +kernel) (by decide) (by decide), ?_⟩
  refine List.forall_mem_cons.mpr ⟨s_goto (pc := 34) X (off := -29) (by decide +kernel) (by decide), ?_⟩
  refine List.forall_mem_cons.mpr ⟨s_iload_n (pc := 37) X (i := 3) (by decide +kernel) rfl, ?_⟩
  refine List.forall_mem_cons.mpr ⟨s_ret (pc := 38) rfl (by decide +kernel), ?_⟩
  exact fun _ h => absurd h List.not_mem_nil
def T_X5_between (E : Ex) (env : Nat → Mf) : List (Nat × Stq) := [(0, o_al 1 0),
  (1, o_il 2 1),
  (2, o_callV SH env 5 68 1 5),
  (5, o_eq0 30 8),
  (8, o_al 9 0),
  (9, o_il 10 2),
  (10, o_callV SH env 13 68 1 5),
  (13, o_eq0 30 16),
  (16, o_il 17 1),
  (17, o_il 18 2),
  (18, o_eq 30 21),
  (21, o_al 22 0),
  (22, o_il 23 1),
  (23, o_il 24 2),
  (24, o_callV SH env 27 84 2 5),
  (27, o_goto 31),
  (30, o_ic 31 (-1)),
  (31, o_ret)]
set_option maxRecDepth 100000 in
set_option maxHeartbeats 4000000 in
theorem ts_X5_between {p : Program} {l : Launch} {e : Env} {R : Room} {s : State} {m : MethodId} {args : Array Value} {below : List Frame} {meth : Method} {c : Code} {cells slots : Nat} {Q : State → Prop} {D : va_G} {C : CI3} {A : Nat → Prop} {ad : Nat → Nat} {E : Ex} {env : Nat → Mf} {d : Nat} (X : Cx p R s m args c cX5_between 3 RX5 D C A ad SH E) (hR : d ≤ R.frames ∧ 100 * d ≤ R.locals) (hcs : cells ≤ R.cells ∧ slots ≤ R.slots) {d_X5_isRow : Nat} (h_X5_isRow : CM l SH E yX5_isRow cX5_isRow 2 (some .boolean) d_X5_isRow (env 68)) (hd_X5_isRow : d_X5_isRow + 1 ≤ d) {d_X5_between0 : Nat} (h_X5_between0 : CM l SH E yX5_between0 cX5_between0 5 (some .int) d_X5_between0 (env 84)) (hd_X5_between0 : d_X5_between0 + 1 ≤ d) : ∀ q ∈ T_X5_between E env, SS p l e R s m args below meth c cells slots Q D C A ad SH 3 cX5_between (some .int) q.1 q.2 := by
  unfold T_X5_between
  refine List.forall_mem_cons.mpr ⟨s_aload_n (pc := 0) X (i := 0) (by decide +kernel) rfl, ?_⟩
  refine List.forall_mem_cons.mpr ⟨s_iload_n (pc := 1) X (i := 1) (by decide +kernel) rfl, ?_⟩
  refine List.forall_mem_cons.mpr ⟨s_callV (pc := 2) X (idx := 56) (by decide +kernel) h_X5_isRow rfl lk_RX5_56 ls_X5_isRow lz_X5_isRow li_RX5 lc_X5_isRow hv_X5_isRow ⟨Nat.le_trans hd_X5_isRow hR.1, Nat.le_trans (by have := hd_X5_isRow; omega) hR.2⟩ hcs, ?_⟩
  refine List.forall_mem_cons.mpr ⟨s_eq0 (pc := 5) X (off := 25) (by decide +kernel) (by decide), ?_⟩
  refine List.forall_mem_cons.mpr ⟨s_aload_n (pc := 8) X (i := 0) (by decide +kernel) rfl, ?_⟩
  refine List.forall_mem_cons.mpr ⟨s_iload_n (pc := 9) X (i := 2) (by decide +kernel) rfl, ?_⟩
  refine List.forall_mem_cons.mpr ⟨s_callV (pc := 10) X (idx := 56) (by decide +kernel) h_X5_isRow rfl lk_RX5_56 ls_X5_isRow lz_X5_isRow li_RX5 lc_X5_isRow hv_X5_isRow ⟨Nat.le_trans hd_X5_isRow hR.1, Nat.le_trans (by have := hd_X5_isRow; omega) hR.2⟩ hcs, ?_⟩
  refine List.forall_mem_cons.mpr ⟨s_eq0 (pc := 13) X (off := 17) (by decide +kernel) (by decide), ?_⟩
  refine List.forall_mem_cons.mpr ⟨s_iload_n (pc := 16) X (i := 1) (by decide +kernel) rfl, ?_⟩
  refine List.forall_mem_cons.mpr ⟨s_iload_n (pc := 17) X (i := 2) (by decide +kernel) rfl, ?_⟩
  refine List.forall_mem_cons.mpr ⟨s_eq (pc := 18) X (off := 12) (by decide +kernel) (by decide), ?_⟩
  refine List.forall_mem_cons.mpr ⟨s_aload_n (pc := 21) X (i := 0) (by decide +kernel) rfl, ?_⟩
  refine List.forall_mem_cons.mpr ⟨s_iload_n (pc := 22) X (i := 1) (by decide +kernel) rfl, ?_⟩
  refine List.forall_mem_cons.mpr ⟨s_iload_n (pc := 23) X (i := 2) (by decide +kernel) rfl, ?_⟩
  refine List.forall_mem_cons.mpr ⟨s_callV (pc := 24) X (idx := 71) (by decide +kernel) h_X5_between0 rfl lk_RX5_71 ls_X5_between0 lz_X5_between0 li_RX5 lc_X5_between0 hv_X5_between0 ⟨Nat.le_trans hd_X5_between0 hR.1, Nat.le_trans (by have := hd_X5_between0; omega) hR.2⟩ hcs, ?_⟩
  refine List.forall_mem_cons.mpr ⟨s_goto (pc := 27) X (off := 4) (by decide +kernel) (by decide), ?_⟩
  refine List.forall_mem_cons.mpr ⟨s_iconst (pc := 30) X (n := -1) (by decide +kernel) (by decide), ?_⟩
  refine List.forall_mem_cons.mpr ⟨s_ret (pc := 31) rfl (by decide +kernel), ?_⟩
  exact fun _ h => absurd h List.not_mem_nil
def T_X5_counts_0 (E : Ex) (env : Nat → Mf) : List (Nat × Stq) := [(0, o_ic 1 (0)),
  (1, o_is 2 1),
  (2, o_il 3 1),
  (3, o_ic 6 (625)),
  (6, o_ge 22 9),
  (9, o_al 10 0),
  (10, o_gR SH 13 5 3),
  (13, o_il 14 1),
  (14, o_ic 15 (0)),
  (15, o_is_ SH 16),
  (16, o_inc 19 1 (1)),
  (19, o_goto 2),
  (22, o_ic 23 (0)),
  (23, o_is 24 1),
  (24, o_il 25 1),
  (25, o_ic 27 (16)),
  (27, o_ge 86 30),
  (30, o_ic 31 (0)),
  (31, o_is 32 2),
  (32, o_il 33 2),
  (33, o_ic 35 (16)),
  (35, o_ge 80 38),
  (38, o_il 39 1),
  (39, o_il 40 2),
  (40, o_eq 74 43),
  (43, o_al 44 0),
  (44, o_il 45 1),
  (45, o_callV SH env 48 68 1 5),
  (48, o_eq0 74 51),
  (51, o_al 52 0),
  (52, o_il 53 2),
  (53, o_callV SH env 56 68 1 5),
  (56, o_eq0 74 59),
  (59, o_al 60 0),
  (60, o_gR SH 63 5 3),
  (63, o_al 64 0),
  (64, o_il 65 1),
  (65, o_il 66 2),
  (66, o_callV SH env 69 84 2 5),
  (69, o_dup2 70)]
set_option maxRecDepth 100000 in
set_option maxHeartbeats 4000000 in
theorem ts_X5_counts_0 {p : Program} {l : Launch} {e : Env} {R : Room} {s : State} {m : MethodId} {args : Array Value} {below : List Frame} {meth : Method} {c : Code} {cells slots : Nat} {Q : State → Prop} {D : va_G} {C : CI3} {A : Nat → Prop} {ad : Nat → Nat} {E : Ex} {env : Nat → Mf} {d : Nat} (X : Cx p R s m args c cX5_counts 3 RX5 D C A ad SH E) (hR : d ≤ R.frames ∧ 100 * d ≤ R.locals) (hcs : cells ≤ R.cells ∧ slots ≤ R.slots) {d_X5_isRow : Nat} (h_X5_isRow : CM l SH E yX5_isRow cX5_isRow 2 (some .boolean) d_X5_isRow (env 68)) (hd_X5_isRow : d_X5_isRow + 1 ≤ d) {d_X5_between0 : Nat} (h_X5_between0 : CM l SH E yX5_between0 cX5_between0 5 (some .int) d_X5_between0 (env 84)) (hd_X5_between0 : d_X5_between0 + 1 ≤ d) : ∀ q ∈ T_X5_counts_0 E env, SS p l e R s m args below meth c cells slots Q D C A ad SH 3 cX5_counts (none) q.1 q.2 := by
  unfold T_X5_counts_0
  refine List.forall_mem_cons.mpr ⟨s_iconst (pc := 0) X (n := 0) (by decide +kernel) (by decide), ?_⟩
  refine List.forall_mem_cons.mpr ⟨s_istore_n (pc := 1) X (i := 1) (by decide +kernel) rfl (by decide), ?_⟩
  refine List.forall_mem_cons.mpr ⟨s_iload_n (pc := 2) X (i := 1) (by decide +kernel) rfl, ?_⟩
  refine List.forall_mem_cons.mpr ⟨s_sipush (pc := 3) X (n := 625) (by decide +kernel) (by decide), ?_⟩
  refine List.forall_mem_cons.mpr ⟨s_ge (pc := 6) X (off := 16) (by decide +kernel) (by decide), ?_⟩
  refine List.forall_mem_cons.mpr ⟨s_aload_n (pc := 9) X (i := 0) (by decide +kernel) rfl, ?_⟩
  refine List.forall_mem_cons.mpr ⟨s_getR (pc := 10) X (idx := 16) (by decide +kernel) inTX5 rfl (by decide) lk_RX5_16 rfl, ?_⟩
  refine List.forall_mem_cons.mpr ⟨s_iload_n (pc := 13) X (i := 1) (by decide +kernel) rfl, ?_⟩
  refine List.forall_mem_cons.mpr ⟨s_iconst (pc := 14) X (n := 0) (by decide +kernel) (by decide), ?_⟩
  refine List.forall_mem_cons.mpr ⟨s_iast (pc := 15) X (by decide +kernel), ?_⟩
  refine List.forall_mem_cons.mpr ⟨s_iinc (pc := 16) X (n := 1) (by decide +kernel) (by decide) (by decide), ?_⟩
  refine List.forall_mem_cons.mpr ⟨s_goto (pc := 19) X (off := -17) (by decide +kernel) (by decide), ?_⟩
  refine List.forall_mem_cons.mpr ⟨s_iconst (pc := 22) X (n := 0) (by decide +kernel) (by decide), ?_⟩
  refine List.forall_mem_cons.mpr ⟨s_istore_n (pc := 23) X (i := 1) (by decide +kernel) rfl (by decide), ?_⟩
  refine List.forall_mem_cons.mpr ⟨s_iload_n (pc := 24) X (i := 1) (by decide +kernel) rfl, ?_⟩
  refine List.forall_mem_cons.mpr ⟨s_bipush (pc := 25) X (n := 16) (by decide +kernel) (by decide), ?_⟩
  refine List.forall_mem_cons.mpr ⟨s_ge (pc := 27) X (off := 59) (by decide +kernel) (by decide), ?_⟩
  refine List.forall_mem_cons.mpr ⟨s_iconst (pc := 30) X (n := 0) (by decide +kernel) (by decide), ?_⟩
  refine List.forall_mem_cons.mpr ⟨s_istore_n (pc := 31) X (i := 2) (by decide +kernel) rfl (by decide), ?_⟩
  refine List.forall_mem_cons.mpr ⟨s_iload_n (pc := 32) X (i := 2) (by decide +kernel) rfl, ?_⟩
  refine List.forall_mem_cons.mpr ⟨s_bipush (pc := 33) X (n := 16) (by decide +kernel) (by decide), ?_⟩
  refine List.forall_mem_cons.mpr ⟨s_ge (pc := 35) X (off := 45) (by decide +kernel) (by decide), ?_⟩
  refine List.forall_mem_cons.mpr ⟨s_iload_n (pc := 38) X (i := 1) (by decide +kernel) rfl, ?_⟩
  refine List.forall_mem_cons.mpr ⟨s_iload_n (pc := 39) X (i := 2) (by decide +kernel) rfl, ?_⟩
  refine List.forall_mem_cons.mpr ⟨s_eq (pc := 40) X (off := 34) (by decide +kernel) (by decide), ?_⟩
  refine List.forall_mem_cons.mpr ⟨s_aload_n (pc := 43) X (i := 0) (by decide +kernel) rfl, ?_⟩
  refine List.forall_mem_cons.mpr ⟨s_iload_n (pc := 44) X (i := 1) (by decide +kernel) rfl, ?_⟩
  refine List.forall_mem_cons.mpr ⟨s_callV (pc := 45) X (idx := 56) (by decide +kernel) h_X5_isRow rfl lk_RX5_56 ls_X5_isRow lz_X5_isRow li_RX5 lc_X5_isRow hv_X5_isRow ⟨Nat.le_trans hd_X5_isRow hR.1, Nat.le_trans (by have := hd_X5_isRow; omega) hR.2⟩ hcs, ?_⟩
  refine List.forall_mem_cons.mpr ⟨s_eq0 (pc := 48) X (off := 26) (by decide +kernel) (by decide), ?_⟩
  refine List.forall_mem_cons.mpr ⟨s_aload_n (pc := 51) X (i := 0) (by decide +kernel) rfl, ?_⟩
  refine List.forall_mem_cons.mpr ⟨s_iload_n (pc := 52) X (i := 2) (by decide +kernel) rfl, ?_⟩
  refine List.forall_mem_cons.mpr ⟨s_callV (pc := 53) X (idx := 56) (by decide +kernel) h_X5_isRow rfl lk_RX5_56 ls_X5_isRow lz_X5_isRow li_RX5 lc_X5_isRow hv_X5_isRow ⟨Nat.le_trans hd_X5_isRow hR.1, Nat.le_trans (by have := hd_X5_isRow; omega) hR.2⟩ hcs, ?_⟩
  refine List.forall_mem_cons.mpr ⟨s_eq0 (pc := 56) X (off := 18) (by decide +kernel) (by decide), ?_⟩
  refine List.forall_mem_cons.mpr ⟨s_aload_n (pc := 59) X (i := 0) (by decide +kernel) rfl, ?_⟩
  refine List.forall_mem_cons.mpr ⟨s_getR (pc := 60) X (idx := 16) (by decide +kernel) inTX5 rfl (by decide) lk_RX5_16 rfl, ?_⟩
  refine List.forall_mem_cons.mpr ⟨s_aload_n (pc := 63) X (i := 0) (by decide +kernel) rfl, ?_⟩
  refine List.forall_mem_cons.mpr ⟨s_iload_n (pc := 64) X (i := 1) (by decide +kernel) rfl, ?_⟩
  refine List.forall_mem_cons.mpr ⟨s_iload_n (pc := 65) X (i := 2) (by decide +kernel) rfl, ?_⟩
  refine List.forall_mem_cons.mpr ⟨s_callV (pc := 66) X (idx := 71) (by decide +kernel) h_X5_between0 rfl lk_RX5_71 ls_X5_between0 lz_X5_between0 li_RX5 lc_X5_between0 hv_X5_between0 ⟨Nat.le_trans hd_X5_between0 hR.1, Nat.le_trans (by have := hd_X5_between0; omega) hR.2⟩ hcs, ?_⟩
  refine List.forall_mem_cons.mpr ⟨s_dup2 (pc := 69) X (by decide +kernel), ?_⟩
  exact fun _ h => absurd h List.not_mem_nil
def T_X5_counts_1 (E : Ex) (env : Nat → Mf) : List (Nat × Stq) := [(70, o_ia SH E 71),
  (71, o_ic 72 (1)),
  (72, o_b2 73 (fun x y => x + y)),
  (73, o_is_ SH 74),
  (74, o_inc 77 2 (1)),
  (77, o_goto 32),
  (80, o_inc 83 1 (1)),
  (83, o_goto 24),
  (86, o_retV)]
set_option maxRecDepth 100000 in
set_option maxHeartbeats 4000000 in
theorem ts_X5_counts_1 {p : Program} {l : Launch} {e : Env} {R : Room} {s : State} {m : MethodId} {args : Array Value} {below : List Frame} {meth : Method} {c : Code} {cells slots : Nat} {Q : State → Prop} {D : va_G} {C : CI3} {A : Nat → Prop} {ad : Nat → Nat} {E : Ex} {env : Nat → Mf} {d : Nat} (X : Cx p R s m args c cX5_counts 3 RX5 D C A ad SH E) (hR : d ≤ R.frames ∧ 100 * d ≤ R.locals) (hcs : cells ≤ R.cells ∧ slots ≤ R.slots) {d_X5_isRow : Nat} (h_X5_isRow : CM l SH E yX5_isRow cX5_isRow 2 (some .boolean) d_X5_isRow (env 68)) (hd_X5_isRow : d_X5_isRow + 1 ≤ d) {d_X5_between0 : Nat} (h_X5_between0 : CM l SH E yX5_between0 cX5_between0 5 (some .int) d_X5_between0 (env 84)) (hd_X5_between0 : d_X5_between0 + 1 ≤ d) : ∀ q ∈ T_X5_counts_1 E env, SS p l e R s m args below meth c cells slots Q D C A ad SH 3 cX5_counts (none) q.1 q.2 := by
  unfold T_X5_counts_1
  refine List.forall_mem_cons.mpr ⟨s_iald (pc := 70) X (by decide +kernel), ?_⟩
  refine List.forall_mem_cons.mpr ⟨s_iconst (pc := 71) X (n := 1) (by decide +kernel) (by decide), ?_⟩
  refine List.forall_mem_cons.mpr ⟨s_iadd (pc := 72) X (by decide +kernel), ?_⟩
  refine List.forall_mem_cons.mpr ⟨s_iast (pc := 73) X (by decide +kernel), ?_⟩
  refine List.forall_mem_cons.mpr ⟨s_iinc (pc := 74) X (n := 1) (by decide +kernel) (by decide) (by decide), ?_⟩
  refine List.forall_mem_cons.mpr ⟨s_goto (pc := 77) X (off := -45) (by decide +kernel) (by decide), ?_⟩
  refine List.forall_mem_cons.mpr ⟨s_iinc (pc := 80) X (n := 1) (by decide +kernel) (by decide) (by decide), ?_⟩
  refine List.forall_mem_cons.mpr ⟨s_goto (pc := 83) X (off := -59) (by decide +kernel) (by decide), ?_⟩
  refine List.forall_mem_cons.mpr ⟨s_retV (pc := 86) (by decide +kernel), ?_⟩
  exact fun _ h => absurd h List.not_mem_nil
def T_X5_counts (E : Ex) (env : Nat → Mf) : List (Nat × Stq) := T_X5_counts_0 E env ++ (T_X5_counts_1 E env)
theorem ts_X5_counts {p : Program} {l : Launch} {e : Env} {R : Room} {s : State} {m : MethodId} {args : Array Value} {below : List Frame} {meth : Method} {c : Code} {cells slots : Nat} {Q : State → Prop} {D : va_G} {C : CI3} {A : Nat → Prop} {ad : Nat → Nat} {E : Ex} {env : Nat → Mf} {d : Nat} (X : Cx p R s m args c cX5_counts 3 RX5 D C A ad SH E) (hR : d ≤ R.frames ∧ 100 * d ≤ R.locals) (hcs : cells ≤ R.cells ∧ slots ≤ R.slots) {d_X5_isRow : Nat} (h_X5_isRow : CM l SH E yX5_isRow cX5_isRow 2 (some .boolean) d_X5_isRow (env 68)) (hd_X5_isRow : d_X5_isRow + 1 ≤ d) {d_X5_between0 : Nat} (h_X5_between0 : CM l SH E yX5_between0 cX5_between0 5 (some .int) d_X5_between0 (env 84)) (hd_X5_between0 : d_X5_between0 + 1 ≤ d) : ∀ q ∈ T_X5_counts E env, SS p l e R s m args below meth c cells slots Q D C A ad SH 3 cX5_counts (none) q.1 q.2 := List.forall_mem_append.mpr ⟨ts_X5_counts_0 X hR hcs h_X5_isRow hd_X5_isRow h_X5_between0 hd_X5_between0, ts_X5_counts_1 X hR hcs h_X5_isRow hd_X5_isRow h_X5_between0 hd_X5_between0⟩
def T_X5_most (E : Ex) (env : Nat → Mf) : List (Nat × Stq) := [(0, o_al 1 0),
  (1, o_callV SH env 4 65 0 5),
  (4, o_ic 5 (4)),
  (5, o_ne 14 8),
  (8, o_ic 11 (625)),
  (11, o_goto 21),
  (14, o_al 15 0),
  (15, o_callV SH env 18 65 0 5),
  (18, o_call env 21 82 1),
  (21, o_ret)]
set_option maxRecDepth 100000 in
set_option maxHeartbeats 4000000 in
theorem ts_X5_most {p : Program} {l : Launch} {e : Env} {R : Room} {s : State} {m : MethodId} {args : Array Value} {below : List Frame} {meth : Method} {c : Code} {cells slots : Nat} {Q : State → Prop} {D : va_G} {C : CI3} {A : Nat → Prop} {ad : Nat → Nat} {E : Ex} {env : Nat → Mf} {d : Nat} (X : Cx p R s m args c cX5_most 1 RX5 D C A ad SH E) (hR : d ≤ R.frames ∧ 100 * d ≤ R.locals) (hcs : cells ≤ R.cells ∧ slots ≤ R.slots) {d_X5_columns : Nat} (h_X5_columns : CM l SH E yX5_columns cX5_columns 1 (some .int) d_X5_columns (env 65)) (hd_X5_columns : d_X5_columns + 1 ≤ d) {d_X5_place : Nat} (h_X5_place : CM l SH E yX5_place cX5_place 1 (some .int) d_X5_place (env 82)) (hd_X5_place : d_X5_place + 1 ≤ d) : ∀ q ∈ T_X5_most E env, SS p l e R s m args below meth c cells slots Q D C A ad SH 1 cX5_most (some .int) q.1 q.2 := by
  unfold T_X5_most
  refine List.forall_mem_cons.mpr ⟨s_aload_n (pc := 0) X (i := 0) (by decide +kernel) rfl, ?_⟩
  refine List.forall_mem_cons.mpr ⟨s_callV (pc := 1) X (idx := 37) (by decide +kernel) h_X5_columns rfl lk_RX5_37 ls_X5_columns lz_X5_columns li_RX5 lc_X5_columns hv_X5_columns ⟨Nat.le_trans hd_X5_columns hR.1, Nat.le_trans (by have := hd_X5_columns; omega) hR.2⟩ hcs, ?_⟩
  refine List.forall_mem_cons.mpr ⟨s_iconst (pc := 4) X (n := 4) (by decide +kernel) (by decide), ?_⟩
  refine List.forall_mem_cons.mpr ⟨s_ne (pc := 5) X (off := 9) (by decide +kernel) (by decide), ?_⟩
  refine List.forall_mem_cons.mpr ⟨s_sipush (pc := 8) X (n := 625) (by decide +kernel) (by decide), ?_⟩
  refine List.forall_mem_cons.mpr ⟨s_goto (pc := 11) X (off := 10) (by decide +kernel) (by decide), ?_⟩
  refine List.forall_mem_cons.mpr ⟨s_aload_n (pc := 14) X (i := 0) (by decide +kernel) rfl, ?_⟩
  refine List.forall_mem_cons.mpr ⟨s_callV (pc := 15) X (idx := 37) (by decide +kernel) h_X5_columns rfl lk_RX5_37 ls_X5_columns lz_X5_columns li_RX5 lc_X5_columns hv_X5_columns ⟨Nat.le_trans hd_X5_columns hR.1, Nat.le_trans (by have := hd_X5_columns; omega) hR.2⟩ hcs, ?_⟩
  refine List.forall_mem_cons.mpr ⟨s_callS (pc := 18) X (idx := 63) (by decide +kernel) h_X5_place lk_RX5_63 ls_X5_place li_RX5 lc_X5_place hy_X5_place ⟨Nat.le_trans hd_X5_place hR.1, Nat.le_trans (by have := hd_X5_place; omega) hR.2⟩ hcs, ?_⟩
  refine List.forall_mem_cons.mpr ⟨s_ret (pc := 21) rfl (by decide +kernel), ?_⟩
  exact fun _ h => absurd h List.not_mem_nil
def T_X5_pairs (E : Ex) (env : Nat → Mf) : List (Nat × Stq) := [(0, o_il 1 1),
  (1, o_ic 2 (0)),
  (2, o_al 3 0),
  (3, o_callV SH env 6 87 0 5),
  (6, o_ic 7 (1)),
  (7, o_b2 8 (fun x y => x - y)),
  (8, o_call env 11 64 3),
  (11, o_ne0 16 14),
  (14, o_ic 15 (-1)),
  (15, o_ret),
  (16, o_ic 17 (0)),
  (17, o_is 18 2),
  (18, o_il 19 2),
  (19, o_al 20 0),
  (20, o_callV SH env 23 65 0 5),
  (23, o_ge 42 26),
  (26, o_il 27 1),
  (27, o_il 28 2),
  (28, o_call env 31 83 2),
  (31, o_ne0 36 34),
  (34, o_ic 35 (-1)),
  (35, o_ret),
  (36, o_inc 39 2 (1)),
  (39, o_goto 18),
  (42, o_al 43 0),
  (43, o_callV SH env 46 86 0 5),
  (46, o_al 47 0),
  (47, o_gR SH 50 5 3),
  (50, o_il 51 1),
  (51, o_ia SH E 52),
  (52, o_ret)]
set_option maxRecDepth 100000 in
set_option maxHeartbeats 4000000 in
theorem ts_X5_pairs {p : Program} {l : Launch} {e : Env} {R : Room} {s : State} {m : MethodId} {args : Array Value} {below : List Frame} {meth : Method} {c : Code} {cells slots : Nat} {Q : State → Prop} {D : va_G} {C : CI3} {A : Nat → Prop} {ad : Nat → Nat} {E : Ex} {env : Nat → Mf} {d : Nat} (X : Cx p R s m args c cX5_pairs 3 RX5 D C A ad SH E) (hR : d ≤ R.frames ∧ 100 * d ≤ R.locals) (hcs : cells ≤ R.cells ∧ slots ≤ R.slots) {d_X5_most : Nat} (h_X5_most : CM l SH E yX5_most cX5_most 1 (some .int) d_X5_most (env 87)) (hd_X5_most : d_X5_most + 1 ≤ d) {d_X5_isIn : Nat} (h_X5_isIn : CM l SH E yX5_isIn cX5_isIn 3 (some .boolean) d_X5_isIn (env 64)) (hd_X5_isIn : d_X5_isIn + 1 ≤ d) {d_X5_columns : Nat} (h_X5_columns : CM l SH E yX5_columns cX5_columns 1 (some .int) d_X5_columns (env 65)) (hd_X5_columns : d_X5_columns + 1 ≤ d) {d_X5_digit : Nat} (h_X5_digit : CM l SH E yX5_digit cX5_digit 2 (some .int) d_X5_digit (env 83)) (hd_X5_digit : d_X5_digit + 1 ≤ d) {d_X5_counts : Nat} (h_X5_counts : CM l SH E yX5_counts cX5_counts 3 (none) d_X5_counts (env 86)) (hd_X5_counts : d_X5_counts + 1 ≤ d) : ∀ q ∈ T_X5_pairs E env, SS p l e R s m args below meth c cells slots Q D C A ad SH 3 cX5_pairs (some .int) q.1 q.2 := by
  unfold T_X5_pairs
  refine List.forall_mem_cons.mpr ⟨s_iload_n (pc := 0) X (i := 1) (by decide +kernel) rfl, ?_⟩
  refine List.forall_mem_cons.mpr ⟨s_iconst (pc := 1) X (n := 0) (by decide +kernel) (by decide), ?_⟩
  refine List.forall_mem_cons.mpr ⟨s_aload_n (pc := 2) X (i := 0) (by decide +kernel) rfl, ?_⟩
  refine List.forall_mem_cons.mpr ⟨s_callV (pc := 3) X (idx := 74) (by decide +kernel) h_X5_most rfl lk_RX5_74 ls_X5_most lz_X5_most li_RX5 lc_X5_most hv_X5_most ⟨Nat.le_trans hd_X5_most hR.1, Nat.le_trans (by have := hd_X5_most; omega) hR.2⟩ hcs, ?_⟩
  refine List.forall_mem_cons.mpr ⟨s_iconst (pc := 6) X (n := 1) (by decide +kernel) (by decide), ?_⟩
  refine List.forall_mem_cons.mpr ⟨s_isub (pc := 7) X (by decide +kernel), ?_⟩
  refine List.forall_mem_cons.mpr ⟨s_callS (pc := 8) X (idx := 29) (by decide +kernel) h_X5_isIn lk_RX5_29 ls_X5_isIn li_RX5 lc_X5_isIn hy_X5_isIn ⟨Nat.le_trans hd_X5_isIn hR.1, Nat.le_trans (by have := hd_X5_isIn; omega) hR.2⟩ hcs, ?_⟩
  refine List.forall_mem_cons.mpr ⟨s_ne0 (pc := 11) X (off := 5) (by decide +kernel) (by decide), ?_⟩
  refine List.forall_mem_cons.mpr ⟨s_iconst (pc := 14) X (n := -1) (by decide +kernel) (by decide), ?_⟩
  refine List.forall_mem_cons.mpr ⟨s_ret (pc := 15) rfl (by decide +kernel), ?_⟩
  refine List.forall_mem_cons.mpr ⟨s_iconst (pc := 16) X (n := 0) (by decide +kernel) (by decide), ?_⟩
  refine List.forall_mem_cons.mpr ⟨s_istore_n (pc := 17) X (i := 2) (by decide +kernel) rfl (by decide), ?_⟩
  refine List.forall_mem_cons.mpr ⟨s_iload_n (pc := 18) X (i := 2) (by decide +kernel) rfl, ?_⟩
  refine List.forall_mem_cons.mpr ⟨s_aload_n (pc := 19) X (i := 0) (by decide +kernel) rfl, ?_⟩
  refine List.forall_mem_cons.mpr ⟨s_callV (pc := 20) X (idx := 37) (by decide +kernel) h_X5_columns rfl lk_RX5_37 ls_X5_columns lz_X5_columns li_RX5 lc_X5_columns hv_X5_columns ⟨Nat.le_trans hd_X5_columns hR.1, Nat.le_trans (by have := hd_X5_columns; omega) hR.2⟩ hcs, ?_⟩
  refine List.forall_mem_cons.mpr ⟨s_ge (pc := 23) X (off := 19) (by decide +kernel) (by decide), ?_⟩
  refine List.forall_mem_cons.mpr ⟨s_iload_n (pc := 26) X (i := 1) (by decide +kernel) rfl, ?_⟩
  refine List.forall_mem_cons.mpr ⟨s_iload_n (pc := 27) X (i := 2) (by decide +kernel) rfl, ?_⟩
  refine List.forall_mem_cons.mpr ⟨s_callS (pc := 28) X (idx := 77) (by decide +kernel) h_X5_digit lk_RX5_77 ls_X5_digit li_RX5 lc_X5_digit hy_X5_digit ⟨Nat.le_trans hd_X5_digit hR.1, Nat.le_trans (by have := hd_X5_digit; omega) hR.2⟩ hcs, ?_⟩
  refine List.forall_mem_cons.mpr ⟨s_ne0 (pc := 31) X (off := 5) (by decide +kernel) (by decide), ?_⟩
  refine List.forall_mem_cons.mpr ⟨s_iconst (pc := 34) X (n := -1) (by decide +kernel) (by decide), ?_⟩
  refine List.forall_mem_cons.mpr ⟨s_ret (pc := 35) rfl (by decide +kernel), ?_⟩
  refine List.forall_mem_cons.mpr ⟨s_iinc (pc := 36) X (n := 1) (by decide +kernel) (by decide) (by decide), ?_⟩
  refine List.forall_mem_cons.mpr ⟨s_goto (pc := 39) X (off := -21) (by decide +kernel) (by decide), ?_⟩
  refine List.forall_mem_cons.mpr ⟨s_aload_n (pc := 42) X (i := 0) (by decide +kernel) rfl, ?_⟩
  refine List.forall_mem_cons.mpr ⟨s_callV (pc := 43) X (idx := 80) (by decide +kernel) h_X5_counts rfl lk_RX5_80 ls_X5_counts lz_X5_counts li_RX5 lc_X5_counts hv_X5_counts ⟨Nat.le_trans hd_X5_counts hR.1, Nat.le_trans (by have := hd_X5_counts; omega) hR.2⟩ hcs, ?_⟩
  refine List.forall_mem_cons.mpr ⟨s_aload_n (pc := 46) X (i := 0) (by decide +kernel) rfl, ?_⟩
  refine List.forall_mem_cons.mpr ⟨s_getR (pc := 47) X (idx := 16) (by decide +kernel) inTX5 rfl (by decide) lk_RX5_16 rfl, ?_⟩
  refine List.forall_mem_cons.mpr ⟨s_iload_n (pc := 50) X (i := 1) (by decide +kernel) rfl, ?_⟩
  refine List.forall_mem_cons.mpr ⟨s_iald (pc := 51) X (by decide +kernel), ?_⟩
  refine List.forall_mem_cons.mpr ⟨s_ret (pc := 52) rfl (by decide +kernel), ?_⟩
  exact fun _ h => absurd h List.not_mem_nil
def T_X5_kinds (E : Ex) (env : Nat → Mf) : List (Nat × Stq) := [(0, o_al 1 0),
  (1, o_callV SH env 4 86 0 5),
  (4, o_ic 5 (0)),
  (5, o_is 6 1),
  (6, o_ic 7 (0)),
  (7, o_is 8 2),
  (8, o_il 9 2),
  (9, o_ic 12 (625)),
  (12, o_ge 38 15),
  (15, o_il 16 1),
  (16, o_al 17 0),
  (17, o_gR SH 20 5 3),
  (20, o_il 21 2),
  (21, o_ia SH E 22),
  (22, o_le0 29 25),
  (25, o_ic 26 (1)),
  (26, o_goto 30),
  (29, o_ic 30 (0)),
  (30, o_b2 31 (fun x y => x + y)),
  (31, o_is 32 1),
  (32, o_inc 35 2 (1)),
  (35, o_goto 8),
  (38, o_il 39 1),
  (39, o_ret)]
set_option maxRecDepth 100000 in
set_option maxHeartbeats 4000000 in
theorem ts_X5_kinds {p : Program} {l : Launch} {e : Env} {R : Room} {s : State} {m : MethodId} {args : Array Value} {below : List Frame} {meth : Method} {c : Code} {cells slots : Nat} {Q : State → Prop} {D : va_G} {C : CI3} {A : Nat → Prop} {ad : Nat → Nat} {E : Ex} {env : Nat → Mf} {d : Nat} (X : Cx p R s m args c cX5_kinds 3 RX5 D C A ad SH E) (hR : d ≤ R.frames ∧ 100 * d ≤ R.locals) (hcs : cells ≤ R.cells ∧ slots ≤ R.slots) {d_X5_counts : Nat} (h_X5_counts : CM l SH E yX5_counts cX5_counts 3 (none) d_X5_counts (env 86)) (hd_X5_counts : d_X5_counts + 1 ≤ d) : ∀ q ∈ T_X5_kinds E env, SS p l e R s m args below meth c cells slots Q D C A ad SH 3 cX5_kinds (some .int) q.1 q.2 := by
  unfold T_X5_kinds
  refine List.forall_mem_cons.mpr ⟨s_aload_n (pc := 0) X (i := 0) (by decide +kernel) rfl, ?_⟩
  refine List.forall_mem_cons.mpr ⟨s_callV (pc := 1) X (idx := 80) (by decide +kernel) h_X5_counts rfl lk_RX5_80 ls_X5_counts lz_X5_counts li_RX5 lc_X5_counts hv_X5_counts ⟨Nat.le_trans hd_X5_counts hR.1, Nat.le_trans (by have := hd_X5_counts; omega) hR.2⟩ hcs, ?_⟩
  refine List.forall_mem_cons.mpr ⟨s_iconst (pc := 4) X (n := 0) (by decide +kernel) (by decide), ?_⟩
  refine List.forall_mem_cons.mpr ⟨s_istore_n (pc := 5) X (i := 1) (by decide +kernel) rfl (by decide), ?_⟩
  refine List.forall_mem_cons.mpr ⟨s_iconst (pc := 6) X (n := 0) (by decide +kernel) (by decide), ?_⟩
  refine List.forall_mem_cons.mpr ⟨s_istore_n (pc := 7) X (i := 2) (by decide +kernel) rfl (by decide), ?_⟩
  refine List.forall_mem_cons.mpr ⟨s_iload_n (pc := 8) X (i := 2) (by decide +kernel) rfl, ?_⟩
  refine List.forall_mem_cons.mpr ⟨s_sipush (pc := 9) X (n := 625) (by decide +kernel) (by decide), ?_⟩
  refine List.forall_mem_cons.mpr ⟨s_ge (pc := 12) X (off := 26) (by decide +kernel) (by decide), ?_⟩
  refine List.forall_mem_cons.mpr ⟨s_iload_n (pc := 15) X (i := 1) (by decide +kernel) rfl, ?_⟩
  refine List.forall_mem_cons.mpr ⟨s_aload_n (pc := 16) X (i := 0) (by decide +kernel) rfl, ?_⟩
  refine List.forall_mem_cons.mpr ⟨s_getR (pc := 17) X (idx := 16) (by decide +kernel) inTX5 rfl (by decide) lk_RX5_16 rfl, ?_⟩
  refine List.forall_mem_cons.mpr ⟨s_iload_n (pc := 20) X (i := 2) (by decide +kernel) rfl, ?_⟩
  refine List.forall_mem_cons.mpr ⟨s_iald (pc := 21) X (by decide +kernel), ?_⟩
  refine List.forall_mem_cons.mpr ⟨s_le0 (pc := 22) X (off := 7) (by decide +kernel) (by decide), ?_⟩
  refine List.forall_mem_cons.mpr ⟨s_iconst (pc := 25) X (n := 1) (by decide +kernel) (by decide), ?_⟩
  refine List.forall_mem_cons.mpr ⟨s_goto (pc := 26) X (off := 4) (by decide +kernel) (by decide), ?_⟩
  refine List.forall_mem_cons.mpr ⟨s_iconst (pc := 29) X (n := 0) (by decide +kernel) (by decide), ?_⟩
  refine List.forall_mem_cons.mpr ⟨s_iadd (pc := 30) X (by decide +kernel), ?_⟩
  refine List.forall_mem_cons.mpr ⟨s_istore_n (pc := 31) X (i := 1) (by decide +kernel) rfl (by decide), ?_⟩
  refine List.forall_mem_cons.mpr ⟨s_iinc (pc := 32) X (n := 1) (by decide +kernel) (by decide) (by decide), ?_⟩
  refine List.forall_mem_cons.mpr ⟨s_goto (pc := 35) X (off := -27) (by decide +kernel) (by decide), ?_⟩
  refine List.forall_mem_cons.mpr ⟨s_iload_n (pc := 38) X (i := 1) (by decide +kernel) rfl, ?_⟩
  refine List.forall_mem_cons.mpr ⟨s_ret (pc := 39) rfl (by decide +kernel), ?_⟩
  exact fun _ h => absurd h List.not_mem_nil
def T_X5_isLaw (E : Ex) (env : Nat → Mf) : List (Nat × Stq) := [(0, o_il 1 1),
  (1, o_ic 2 (1)),
  (2, o_al 3 0),
  (3, o_callV SH env 6 87 0 5),
  (6, o_ic 7 (1)),
  (7, o_b2 8 (fun x y => x - y)),
  (8, o_call env 11 64 3),
  (11, o_retZ)]
set_option maxRecDepth 100000 in
set_option maxHeartbeats 4000000 in
theorem ts_X5_isLaw {p : Program} {l : Launch} {e : Env} {R : Room} {s : State} {m : MethodId} {args : Array Value} {below : List Frame} {meth : Method} {c : Code} {cells slots : Nat} {Q : State → Prop} {D : va_G} {C : CI3} {A : Nat → Prop} {ad : Nat → Nat} {E : Ex} {env : Nat → Mf} {d : Nat} (X : Cx p R s m args c cX5_isLaw 2 RX5 D C A ad SH E) (hR : d ≤ R.frames ∧ 100 * d ≤ R.locals) (hcs : cells ≤ R.cells ∧ slots ≤ R.slots) {d_X5_most : Nat} (h_X5_most : CM l SH E yX5_most cX5_most 1 (some .int) d_X5_most (env 87)) (hd_X5_most : d_X5_most + 1 ≤ d) {d_X5_isIn : Nat} (h_X5_isIn : CM l SH E yX5_isIn cX5_isIn 3 (some .boolean) d_X5_isIn (env 64)) (hd_X5_isIn : d_X5_isIn + 1 ≤ d) : ∀ q ∈ T_X5_isLaw E env, SS p l e R s m args below meth c cells slots Q D C A ad SH 2 cX5_isLaw (some .boolean) q.1 q.2 := by
  unfold T_X5_isLaw
  refine List.forall_mem_cons.mpr ⟨s_iload_n (pc := 0) X (i := 1) (by decide +kernel) rfl, ?_⟩
  refine List.forall_mem_cons.mpr ⟨s_iconst (pc := 1) X (n := 1) (by decide +kernel) (by decide), ?_⟩
  refine List.forall_mem_cons.mpr ⟨s_aload_n (pc := 2) X (i := 0) (by decide +kernel) rfl, ?_⟩
  refine List.forall_mem_cons.mpr ⟨s_callV (pc := 3) X (idx := 74) (by decide +kernel) h_X5_most rfl lk_RX5_74 ls_X5_most lz_X5_most li_RX5 lc_X5_most hv_X5_most ⟨Nat.le_trans hd_X5_most hR.1, Nat.le_trans (by have := hd_X5_most; omega) hR.2⟩ hcs, ?_⟩
  refine List.forall_mem_cons.mpr ⟨s_iconst (pc := 6) X (n := 1) (by decide +kernel) (by decide), ?_⟩
  refine List.forall_mem_cons.mpr ⟨s_isub (pc := 7) X (by decide +kernel), ?_⟩
  refine List.forall_mem_cons.mpr ⟨s_callS (pc := 8) X (idx := 29) (by decide +kernel) h_X5_isIn lk_RX5_29 ls_X5_isIn li_RX5 lc_X5_isIn hy_X5_isIn ⟨Nat.le_trans hd_X5_isIn hR.1, Nat.le_trans (by have := hd_X5_isIn; omega) hR.2⟩ hcs, ?_⟩
  refine List.forall_mem_cons.mpr ⟨s_retZ (pc := 11) (by decide +kernel), ?_⟩
  exact fun _ h => absurd h List.not_mem_nil
def T_X5_turned (E : Ex) (env : Nat → Mf) : List (Nat × Stq) := [(0, o_ic 1 (0)),
  (1, o_is 2 2),
  (2, o_ic 3 (0)),
  (3, o_is 4 3),
  (4, o_il 5 3),
  (5, o_ic 6 (4)),
  (6, o_ge 54 9),
  (9, o_il 10 2),
  (10, o_il 11 3),
  (11, o_call env 14 82 1),
  (14, o_il 15 1),
  (15, o_il 16 3),
  (16, o_call env 19 83 2),
  (19, o_ic 20 (3)),
  (20, o_ne 27 23),
  (23, o_ic 24 (4)),
  (24, o_goto 45),
  (27, o_il 28 1),
  (28, o_il 29 3),
  (29, o_call env 32 83 2),
  (32, o_ic 33 (4)),
  (33, o_ne 40 36),
  (36, o_ic 37 (3)),
  (37, o_goto 45),
  (40, o_il 41 1),
  (41, o_il 42 3),
  (42, o_call env 45 83 2),
  (45, o_b2 46 (fun x y => x * y)),
  (46, o_b2 47 (fun x y => x + y)),
  (47, o_is 48 2),
  (48, o_inc 51 3 (1)),
  (51, o_goto 4),
  (54, o_il 55 2),
  (55, o_ret)]
set_option maxRecDepth 100000 in
set_option maxHeartbeats 4000000 in
theorem ts_X5_turned {p : Program} {l : Launch} {e : Env} {R : Room} {s : State} {m : MethodId} {args : Array Value} {below : List Frame} {meth : Method} {c : Code} {cells slots : Nat} {Q : State → Prop} {D : va_G} {C : CI3} {A : Nat → Prop} {ad : Nat → Nat} {E : Ex} {env : Nat → Mf} {d : Nat} (X : Cx p R s m args c cX5_turned 4 RX5 D C A ad SH E) (hR : d ≤ R.frames ∧ 100 * d ≤ R.locals) (hcs : cells ≤ R.cells ∧ slots ≤ R.slots) {d_X5_place : Nat} (h_X5_place : CM l SH E yX5_place cX5_place 1 (some .int) d_X5_place (env 82)) (hd_X5_place : d_X5_place + 1 ≤ d) {d_X5_digit : Nat} (h_X5_digit : CM l SH E yX5_digit cX5_digit 2 (some .int) d_X5_digit (env 83)) (hd_X5_digit : d_X5_digit + 1 ≤ d) : ∀ q ∈ T_X5_turned E env, SS p l e R s m args below meth c cells slots Q D C A ad SH 4 cX5_turned (some .int) q.1 q.2 := by
  unfold T_X5_turned
  refine List.forall_mem_cons.mpr ⟨s_iconst (pc := 0) X (n := 0) (by decide +kernel) (by decide), ?_⟩
  refine List.forall_mem_cons.mpr ⟨s_istore_n (pc := 1) X (i := 2) (by decide +kernel) rfl (by decide), ?_⟩
  refine List.forall_mem_cons.mpr ⟨s_iconst (pc := 2) X (n := 0) (by decide +kernel) (by decide), ?_⟩
  refine List.forall_mem_cons.mpr ⟨s_istore_n (pc := 3) X (i := 3) (by decide +kernel) rfl (by decide), ?_⟩
  refine List.forall_mem_cons.mpr ⟨s_iload_n (pc := 4) X (i := 3) (by decide +kernel) rfl, ?_⟩
  refine List.forall_mem_cons.mpr ⟨s_iconst (pc := 5) X (n := 4) (by decide +kernel) (by decide), ?_⟩
  refine List.forall_mem_cons.mpr ⟨s_ge (pc := 6) X (off := 48) (by decide +kernel) (by decide), ?_⟩
  refine List.forall_mem_cons.mpr ⟨s_iload_n (pc := 9) X (i := 2) (by decide +kernel) rfl, ?_⟩
  refine List.forall_mem_cons.mpr ⟨s_iload_n (pc := 10) X (i := 3) (by decide +kernel) rfl, ?_⟩
  refine List.forall_mem_cons.mpr ⟨s_callS (pc := 11) X (idx := 63) (by decide +kernel) h_X5_place lk_RX5_63 ls_X5_place li_RX5 lc_X5_place hy_X5_place ⟨Nat.le_trans hd_X5_place hR.1, Nat.le_trans (by have := hd_X5_place; omega) hR.2⟩ hcs, ?_⟩
  refine List.forall_mem_cons.mpr ⟨s_iload_n (pc := 14) X (i := 1) (by decide +kernel) rfl, ?_⟩
  refine List.forall_mem_cons.mpr ⟨s_iload_n (pc := 15) X (i := 3) (by decide +kernel) rfl, ?_⟩
  refine List.forall_mem_cons.mpr ⟨s_callS (pc := 16) X (idx := 77) (by decide +kernel) h_X5_digit lk_RX5_77 ls_X5_digit li_RX5 lc_X5_digit hy_X5_digit ⟨Nat.le_trans hd_X5_digit hR.1, Nat.le_trans (by have := hd_X5_digit; omega) hR.2⟩ hcs, ?_⟩
  refine List.forall_mem_cons.mpr ⟨s_iconst (pc := 19) X (n := 3) (by decide +kernel) (by decide), ?_⟩
  refine List.forall_mem_cons.mpr ⟨s_ne (pc := 20) X (off := 7) (by decide +kernel) (by decide), ?_⟩
  refine List.forall_mem_cons.mpr ⟨s_iconst (pc := 23) X (n := 4) (by decide +kernel) (by decide), ?_⟩
  refine List.forall_mem_cons.mpr ⟨s_goto (pc := 24) X (off := 21) (by decide +kernel) (by decide), ?_⟩
  refine List.forall_mem_cons.mpr ⟨s_iload_n (pc := 27) X (i := 1) (by decide +kernel) rfl, ?_⟩
  refine List.forall_mem_cons.mpr ⟨s_iload_n (pc := 28) X (i := 3) (by decide +kernel) rfl, ?_⟩
  refine List.forall_mem_cons.mpr ⟨s_callS (pc := 29) X (idx := 77) (by decide +kernel) h_X5_digit lk_RX5_77 ls_X5_digit li_RX5 lc_X5_digit hy_X5_digit ⟨Nat.le_trans hd_X5_digit hR.1, Nat.le_trans (by have := hd_X5_digit; omega) hR.2⟩ hcs, ?_⟩
  refine List.forall_mem_cons.mpr ⟨s_iconst (pc := 32) X (n := 4) (by decide +kernel) (by decide), ?_⟩
  refine List.forall_mem_cons.mpr ⟨s_ne (pc := 33) X (off := 7) (by decide +kernel) (by decide), ?_⟩
  refine List.forall_mem_cons.mpr ⟨s_iconst (pc := 36) X (n := 3) (by decide +kernel) (by decide), ?_⟩
  refine List.forall_mem_cons.mpr ⟨s_goto (pc := 37) X (off := 8) (by decide +kernel) (by decide), ?_⟩
  refine List.forall_mem_cons.mpr ⟨s_iload_n (pc := 40) X (i := 1) (by decide +kernel) rfl, ?_⟩
  refine List.forall_mem_cons.mpr ⟨s_iload_n (pc := 41) X (i := 3) (by decide +kernel) rfl, ?_⟩
  refine List.forall_mem_cons.mpr ⟨s_callS (pc := 42) X (idx := 77) (by decide +kernel) h_X5_digit lk_RX5_77 ls_X5_digit li_RX5 lc_X5_digit hy_X5_digit ⟨Nat.le_trans hd_X5_digit hR.1, Nat.le_trans (by have := hd_X5_digit; omega) hR.2⟩ hcs, ?_⟩
  refine List.forall_mem_cons.mpr ⟨s_imul (pc := 45) X (by decide +kernel), ?_⟩
  refine List.forall_mem_cons.mpr ⟨s_iadd (pc := 46) X (by decide +kernel), ?_⟩
  refine List.forall_mem_cons.mpr ⟨s_istore_n (pc := 47) X (i := 2) (by decide +kernel) rfl (by decide), ?_⟩
  refine List.forall_mem_cons.mpr ⟨s_iinc (pc := 48) X (n := 1) (by decide +kernel) (by decide) (by decide), ?_⟩
  refine List.forall_mem_cons.mpr ⟨s_goto (pc := 51) X (off := -47) (by decide +kernel) (by decide), ?_⟩
  refine List.forall_mem_cons.mpr ⟨s_iload_n (pc := 54) X (i := 2) (by decide +kernel) rfl, ?_⟩
  refine List.forall_mem_cons.mpr ⟨s_ret (pc := 55) rfl (by decide +kernel), ?_⟩
  exact fun _ h => absurd h List.not_mem_nil
def T_X5_least0 (E : Ex) (env : Nat → Mf) : List (Nat × Stq) := [(0, o_il 1 1),
  (1, o_al 2 0),
  (2, o_il 3 1),
  (3, o_callV SH env 6 91 1 5),
  (6, o_ge 13 9),
  (9, o_il 10 1),
  (10, o_goto 18),
  (13, o_al 14 0),
  (14, o_il 15 1),
  (15, o_callV SH env 18 91 1 5),
  (18, o_ret)]
set_option maxRecDepth 100000 in
set_option maxHeartbeats 4000000 in
theorem ts_X5_least0 {p : Program} {l : Launch} {e : Env} {R : Room} {s : State} {m : MethodId} {args : Array Value} {below : List Frame} {meth : Method} {c : Code} {cells slots : Nat} {Q : State → Prop} {D : va_G} {C : CI3} {A : Nat → Prop} {ad : Nat → Nat} {E : Ex} {env : Nat → Mf} {d : Nat} (X : Cx p R s m args c cX5_least0 2 RX5 D C A ad SH E) (hR : d ≤ R.frames ∧ 100 * d ≤ R.locals) (hcs : cells ≤ R.cells ∧ slots ≤ R.slots) {d_X5_turned : Nat} (h_X5_turned : CM l SH E yX5_turned cX5_turned 4 (some .int) d_X5_turned (env 91)) (hd_X5_turned : d_X5_turned + 1 ≤ d) : ∀ q ∈ T_X5_least0 E env, SS p l e R s m args below meth c cells slots Q D C A ad SH 2 cX5_least0 (some .int) q.1 q.2 := by
  unfold T_X5_least0
  refine List.forall_mem_cons.mpr ⟨s_iload_n (pc := 0) X (i := 1) (by decide +kernel) rfl, ?_⟩
  refine List.forall_mem_cons.mpr ⟨s_aload_n (pc := 1) X (i := 0) (by decide +kernel) rfl, ?_⟩
  refine List.forall_mem_cons.mpr ⟨s_iload_n (pc := 2) X (i := 1) (by decide +kernel) rfl, ?_⟩
  refine List.forall_mem_cons.mpr ⟨s_callV (pc := 3) X (idx := 83) (by decide +kernel) h_X5_turned rfl lk_RX5_83 ls_X5_turned lz_X5_turned li_RX5 lc_X5_turned hv_X5_turned ⟨Nat.le_trans hd_X5_turned hR.1, Nat.le_trans (by have := hd_X5_turned; omega) hR.2⟩ hcs, ?_⟩
  refine List.forall_mem_cons.mpr ⟨s_ge (pc := 6) X (off := 7) (by decide +kernel) (by decide), ?_⟩
  refine List.forall_mem_cons.mpr ⟨s_iload_n (pc := 9) X (i := 1) (by decide +kernel) rfl, ?_⟩
  refine List.forall_mem_cons.mpr ⟨s_goto (pc := 10) X (off := 8) (by decide +kernel) (by decide), ?_⟩
  refine List.forall_mem_cons.mpr ⟨s_aload_n (pc := 13) X (i := 0) (by decide +kernel) rfl, ?_⟩
  refine List.forall_mem_cons.mpr ⟨s_iload_n (pc := 14) X (i := 1) (by decide +kernel) rfl, ?_⟩
  refine List.forall_mem_cons.mpr ⟨s_callV (pc := 15) X (idx := 83) (by decide +kernel) h_X5_turned rfl lk_RX5_83 ls_X5_turned lz_X5_turned li_RX5 lc_X5_turned hv_X5_turned ⟨Nat.le_trans hd_X5_turned hR.1, Nat.le_trans (by have := hd_X5_turned; omega) hR.2⟩ hcs, ?_⟩
  refine List.forall_mem_cons.mpr ⟨s_ret (pc := 18) rfl (by decide +kernel), ?_⟩
  exact fun _ h => absurd h List.not_mem_nil
def T_X5_least (E : Ex) (env : Nat → Mf) : List (Nat × Stq) := [(0, o_al 1 0),
  (1, o_il 2 1),
  (2, o_callV SH env 5 90 1 5),
  (5, o_eq0 16 8),
  (8, o_al 9 0),
  (9, o_il 10 1),
  (10, o_callV SH env 13 92 1 5),
  (13, o_goto 17),
  (16, o_ic 17 (-1)),
  (17, o_ret)]
set_option maxRecDepth 100000 in
set_option maxHeartbeats 4000000 in
theorem ts_X5_least {p : Program} {l : Launch} {e : Env} {R : Room} {s : State} {m : MethodId} {args : Array Value} {below : List Frame} {meth : Method} {c : Code} {cells slots : Nat} {Q : State → Prop} {D : va_G} {C : CI3} {A : Nat → Prop} {ad : Nat → Nat} {E : Ex} {env : Nat → Mf} {d : Nat} (X : Cx p R s m args c cX5_least 2 RX5 D C A ad SH E) (hR : d ≤ R.frames ∧ 100 * d ≤ R.locals) (hcs : cells ≤ R.cells ∧ slots ≤ R.slots) {d_X5_isLaw : Nat} (h_X5_isLaw : CM l SH E yX5_isLaw cX5_isLaw 2 (some .boolean) d_X5_isLaw (env 90)) (hd_X5_isLaw : d_X5_isLaw + 1 ≤ d) {d_X5_least0 : Nat} (h_X5_least0 : CM l SH E yX5_least0 cX5_least0 2 (some .int) d_X5_least0 (env 92)) (hd_X5_least0 : d_X5_least0 + 1 ≤ d) : ∀ q ∈ T_X5_least E env, SS p l e R s m args below meth c cells slots Q D C A ad SH 2 cX5_least (some .int) q.1 q.2 := by
  unfold T_X5_least
  refine List.forall_mem_cons.mpr ⟨s_aload_n (pc := 0) X (i := 0) (by decide +kernel) rfl, ?_⟩
  refine List.forall_mem_cons.mpr ⟨s_iload_n (pc := 1) X (i := 1) (by decide +kernel) rfl, ?_⟩
  refine List.forall_mem_cons.mpr ⟨s_callV (pc := 2) X (idx := 86) (by decide +kernel) h_X5_isLaw rfl lk_RX5_86 ls_X5_isLaw lz_X5_isLaw li_RX5 lc_X5_isLaw hv_X5_isLaw ⟨Nat.le_trans hd_X5_isLaw hR.1, Nat.le_trans (by have := hd_X5_isLaw; omega) hR.2⟩ hcs, ?_⟩
  refine List.forall_mem_cons.mpr ⟨s_eq0 (pc := 5) X (off := 11) (by decide +kernel) (by decide), ?_⟩
  refine List.forall_mem_cons.mpr ⟨s_aload_n (pc := 8) X (i := 0) (by decide +kernel) rfl, ?_⟩
  refine List.forall_mem_cons.mpr ⟨s_iload_n (pc := 9) X (i := 1) (by decide +kernel) rfl, ?_⟩
  refine List.forall_mem_cons.mpr ⟨s_callV (pc := 10) X (idx := 89) (by decide +kernel) h_X5_least0 rfl lk_RX5_89 ls_X5_least0 lz_X5_least0 li_RX5 lc_X5_least0 hv_X5_least0 ⟨Nat.le_trans hd_X5_least0 hR.1, Nat.le_trans (by have := hd_X5_least0; omega) hR.2⟩ hcs, ?_⟩
  refine List.forall_mem_cons.mpr ⟨s_goto (pc := 13) X (off := 4) (by decide +kernel) (by decide), ?_⟩
  refine List.forall_mem_cons.mpr ⟨s_iconst (pc := 16) X (n := -1) (by decide +kernel) (by decide), ?_⟩
  refine List.forall_mem_cons.mpr ⟨s_ret (pc := 17) rfl (by decide +kernel), ?_⟩
  exact fun _ h => absurd h List.not_mem_nil
def T_X5_isSo (E : Ex) (env : Nat → Mf) : List (Nat × Stq) := [(0, o_ic 1 (0)),
  (1, o_is 3 4),
  (3, o_il 5 4),
  (5, o_al 6 0),
  (6, o_callV SH env 9 65 0 5),
  (9, o_ge 69 12),
  (12, o_il 13 1),
  (13, o_il 15 4),
  (15, o_call env 18 83 2),
  (18, o_is 20 5),
  (20, o_il 22 5),
  (22, o_ne0 29 25),
  (25, o_ic 26 (0)),
  (26, o_goto 37),
  (29, o_al 30 0),
  (30, o_il 31 2),
  (31, o_il 32 3),
  (32, o_il 34 4),
  (34, o_callV SH env 37 81 3 5),
  (37, o_is 39 6),
  (39, o_il 41 5),
  (41, o_ic 42 (2)),
  (42, o_ne 54 45),
  (45, o_il 47 6),
  (47, o_ic 48 (1)),
  (48, o_ne 63 51),
  (51, o_goto 61),
  (54, o_il 56 5),
  (56, o_il 58 6),
  (58, o_eq 63 61),
  (61, o_ic 62 (0)),
  (62, o_retZ),
  (63, o_inc 66 4 (1)),
  (66, o_goto 3),
  (69, o_ic 70 (1)),
  (70, o_retZ)]
set_option maxRecDepth 100000 in
set_option maxHeartbeats 4000000 in
theorem ts_X5_isSo {p : Program} {l : Launch} {e : Env} {R : Room} {s : State} {m : MethodId} {args : Array Value} {below : List Frame} {meth : Method} {c : Code} {cells slots : Nat} {Q : State → Prop} {D : va_G} {C : CI3} {A : Nat → Prop} {ad : Nat → Nat} {E : Ex} {env : Nat → Mf} {d : Nat} (X : Cx p R s m args c cX5_isSo 7 RX5 D C A ad SH E) (hR : d ≤ R.frames ∧ 100 * d ≤ R.locals) (hcs : cells ≤ R.cells ∧ slots ≤ R.slots) {d_X5_columns : Nat} (h_X5_columns : CM l SH E yX5_columns cX5_columns 1 (some .int) d_X5_columns (env 65)) (hd_X5_columns : d_X5_columns + 1 ≤ d) {d_X5_digit : Nat} (h_X5_digit : CM l SH E yX5_digit cX5_digit 2 (some .int) d_X5_digit (env 83)) (hd_X5_digit : d_X5_digit + 1 ≤ d) {d_X5_step : Nat} (h_X5_step : CM l SH E yX5_step cX5_step 6 (some .int) d_X5_step (env 81)) (hd_X5_step : d_X5_step + 1 ≤ d) : ∀ q ∈ T_X5_isSo E env, SS p l e R s m args below meth c cells slots Q D C A ad SH 7 cX5_isSo (some .boolean) q.1 q.2 := by
  unfold T_X5_isSo
  refine List.forall_mem_cons.mpr ⟨s_iconst (pc := 0) X (n := 0) (by decide +kernel) (by decide), ?_⟩
  refine List.forall_mem_cons.mpr ⟨s_istore (pc := 1) X (by decide +kernel) (by decide), ?_⟩
  refine List.forall_mem_cons.mpr ⟨s_iload (pc := 3) X (by decide +kernel), ?_⟩
  refine List.forall_mem_cons.mpr ⟨s_aload_n (pc := 5) X (i := 0) (by decide +kernel) rfl, ?_⟩
  refine List.forall_mem_cons.mpr ⟨s_callV (pc := 6) X (idx := 37) (by decide +kernel) h_X5_columns rfl lk_RX5_37 ls_X5_columns lz_X5_columns li_RX5 lc_X5_columns hv_X5_columns ⟨Nat.le_trans hd_X5_columns hR.1, Nat.le_trans (by have := hd_X5_columns; omega) hR.2⟩ hcs, ?_⟩
  refine List.forall_mem_cons.mpr ⟨s_ge (pc := 9) X (off := 60) (by decide +kernel) (by decide), ?_⟩
  refine List.forall_mem_cons.mpr ⟨s_iload_n (pc := 12) X (i := 1) (by decide +kernel) rfl, ?_⟩
  refine List.forall_mem_cons.mpr ⟨s_iload (pc := 13) X (by decide +kernel), ?_⟩
  refine List.forall_mem_cons.mpr ⟨s_callS (pc := 15) X (idx := 77) (by decide +kernel) h_X5_digit lk_RX5_77 ls_X5_digit li_RX5 lc_X5_digit hy_X5_digit ⟨Nat.le_trans hd_X5_digit hR.1, Nat.le_trans (by have := hd_X5_digit; omega) hR.2⟩ hcs, ?_⟩
  refine List.forall_mem_cons.mpr ⟨s_istore (pc := 18) X (by decide +kernel) (by decide), ?_⟩
  refine List.forall_mem_cons.mpr ⟨s_iload (pc := 20) X (by decide +kernel), ?_⟩
  refine List.forall_mem_cons.mpr ⟨s_ne0 (pc := 22) X (off := 7) (by decide +kernel) (by decide), ?_⟩
  refine List.forall_mem_cons.mpr ⟨s_iconst (pc := 25) X (n := 0) (by decide +kernel) (by decide), ?_⟩
  refine List.forall_mem_cons.mpr ⟨s_goto (pc := 26) X (off := 11) (by decide +kernel) (by decide), ?_⟩
  refine List.forall_mem_cons.mpr ⟨s_aload_n (pc := 29) X (i := 0) (by decide +kernel) rfl, ?_⟩
  refine List.forall_mem_cons.mpr ⟨s_iload_n (pc := 30) X (i := 2) (by decide +kernel) rfl, ?_⟩
  refine List.forall_mem_cons.mpr ⟨s_iload_n (pc := 31) X (i := 3) (by decide +kernel) rfl, ?_⟩
  refine List.forall_mem_cons.mpr ⟨s_iload (pc := 32) X (by decide +kernel), ?_⟩
  refine List.forall_mem_cons.mpr ⟨s_callV (pc := 34) X (idx := 67) (by decide +kernel) h_X5_step rfl lk_RX5_67 ls_X5_step lz_X5_step li_RX5 lc_X5_step hv_X5_step ⟨Nat.le_trans hd_X5_step hR.1, Nat.le_trans (by have := hd_X5_step; omega) hR.2⟩ hcs, ?_⟩
  refine List.forall_mem_cons.mpr ⟨s_istore (pc := 37) X (by decide +kernel) (by decide), ?_⟩
  refine List.forall_mem_cons.mpr ⟨s_iload (pc := 39) X (by decide +kernel), ?_⟩
  refine List.forall_mem_cons.mpr ⟨s_iconst (pc := 41) X (n := 2) (by decide +kernel) (by decide), ?_⟩
  refine List.forall_mem_cons.mpr ⟨s_ne (pc := 42) X (off := 12) (by decide +kernel) (by decide), ?_⟩
  refine List.forall_mem_cons.mpr ⟨s_iload (pc := 45) X (by decide +kernel), ?_⟩
  refine List.forall_mem_cons.mpr ⟨s_iconst (pc := 47) X (n := 1) (by decide +kernel) (by decide), ?_⟩
  refine List.forall_mem_cons.mpr ⟨s_ne (pc := 48) X (off := 15) (by decide +kernel) (by decide), ?_⟩
  refine List.forall_mem_cons.mpr ⟨s_goto (pc := 51) X (off := 10) (by decide +kernel) (by decide), ?_⟩
  refine List.forall_mem_cons.mpr ⟨s_iload (pc := 54) X (by decide +kernel), ?_⟩
  refine List.forall_mem_cons.mpr ⟨s_iload (pc := 56) X (by decide +kernel), ?_⟩
  refine List.forall_mem_cons.mpr ⟨s_eq (pc := 58) X (off := 5) (by decide +kernel) (by decide), ?_⟩
  refine List.forall_mem_cons.mpr ⟨s_iconst (pc := 61) X (n := 0) (by decide +kernel) (by decide), ?_⟩
  refine List.forall_mem_cons.mpr ⟨s_retZ (pc := 62) (by decide +kernel), ?_⟩
  refine List.forall_mem_cons.mpr ⟨s_iinc (pc := 63) X (n := 1) (by decide +kernel) (by decide) (by decide), ?_⟩
  refine List.forall_mem_cons.mpr ⟨s_goto (pc := 66) X (off := -63) (by decide +kernel) (by decide), ?_⟩
  refine List.forall_mem_cons.mpr ⟨s_iconst (pc := 69) X (n := 1) (by decide +kernel) (by decide), ?_⟩
  refine List.forall_mem_cons.mpr ⟨s_retZ (pc := 70) (by decide +kernel), ?_⟩
  exact fun _ h => absurd h List.not_mem_nil
def T_X5_breaks (E : Ex) (env : Nat → Mf) : List (Nat × Stq) := [(0, o_al 1 0),
  (1, o_il 2 2),
  (2, o_callV SH env 5 68 1 5),
  (5, o_eq0 40 8),
  (8, o_al 9 0),
  (9, o_il 10 3),
  (10, o_callV SH env 13 68 1 5),
  (13, o_eq0 40 16),
  (16, o_al 17 0),
  (17, o_il 18 1),
  (18, o_il 19 2),
  (19, o_il 20 3),
  (20, o_callV SH env 23 94 3 5),
  (23, o_ne0 36 26),
  (26, o_al 27 0),
  (27, o_il 28 1),
  (28, o_il 29 3),
  (29, o_il 30 2),
  (30, o_callV SH env 33 94 3 5),
  (33, o_eq0 40 36),
  (36, o_ic 37 (1)),
  (37, o_goto 41),
  (40, o_ic 41 (0)),
  (41, o_retZ)]
set_option maxRecDepth 100000 in
set_option maxHeartbeats 4000000 in
theorem ts_X5_breaks {p : Program} {l : Launch} {e : Env} {R : Room} {s : State} {m : MethodId} {args : Array Value} {below : List Frame} {meth : Method} {c : Code} {cells slots : Nat} {Q : State → Prop} {D : va_G} {C : CI3} {A : Nat → Prop} {ad : Nat → Nat} {E : Ex} {env : Nat → Mf} {d : Nat} (X : Cx p R s m args c cX5_breaks 4 RX5 D C A ad SH E) (hR : d ≤ R.frames ∧ 100 * d ≤ R.locals) (hcs : cells ≤ R.cells ∧ slots ≤ R.slots) {d_X5_isRow : Nat} (h_X5_isRow : CM l SH E yX5_isRow cX5_isRow 2 (some .boolean) d_X5_isRow (env 68)) (hd_X5_isRow : d_X5_isRow + 1 ≤ d) {d_X5_isSo : Nat} (h_X5_isSo : CM l SH E yX5_isSo cX5_isSo 7 (some .boolean) d_X5_isSo (env 94)) (hd_X5_isSo : d_X5_isSo + 1 ≤ d) : ∀ q ∈ T_X5_breaks E env, SS p l e R s m args below meth c cells slots Q D C A ad SH 4 cX5_breaks (some .boolean) q.1 q.2 := by
  unfold T_X5_breaks
  refine List.forall_mem_cons.mpr ⟨s_aload_n (pc := 0) X (i := 0) (by decide +kernel) rfl, ?_⟩
  refine List.forall_mem_cons.mpr ⟨s_iload_n (pc := 1) X (i := 2) (by decide +kernel) rfl, ?_⟩
  refine List.forall_mem_cons.mpr ⟨s_callV (pc := 2) X (idx := 56) (by decide +kernel) h_X5_isRow rfl lk_RX5_56 ls_X5_isRow lz_X5_isRow li_RX5 lc_X5_isRow hv_X5_isRow ⟨Nat.le_trans hd_X5_isRow hR.1, Nat.le_trans (by have := hd_X5_isRow; omega) hR.2⟩ hcs, ?_⟩
  refine List.forall_mem_cons.mpr ⟨s_eq0 (pc := 5) X (off := 35) (by decide +kernel) (by decide), ?_⟩
  refine List.forall_mem_cons.mpr ⟨s_aload_n (pc := 8) X (i := 0) (by decide +kernel) rfl, ?_⟩
  refine List.forall_mem_cons.mpr ⟨s_iload_n (pc := 9) X (i := 3) (by decide +kernel) rfl, ?_⟩
  refine List.forall_mem_cons.mpr ⟨s_callV (pc := 10) X (idx := 56) (by decide +kernel) h_X5_isRow rfl lk_RX5_56 ls_X5_isRow lz_X5_isRow li_RX5 lc_X5_isRow hv_X5_isRow ⟨Nat.le_trans hd_X5_isRow hR.1, Nat.le_trans (by have := hd_X5_isRow; omega) hR.2⟩ hcs, ?_⟩
  refine List.forall_mem_cons.mpr ⟨s_eq0 (pc := 13) X (off := 27) (by decide +kernel) (by decide), ?_⟩
  refine List.forall_mem_cons.mpr ⟨s_aload_n (pc := 16) X (i := 0) (by decide +kernel) rfl, ?_⟩
  refine List.forall_mem_cons.mpr ⟨s_iload_n (pc := 17) X (i := 1) (by decide +kernel) rfl, ?_⟩
  refine List.forall_mem_cons.mpr ⟨s_iload_n (pc := 18) X (i := 2) (by decide +kernel) rfl, ?_⟩
  refine List.forall_mem_cons.mpr ⟨s_iload_n (pc := 19) X (i := 3) (by decide +kernel) rfl, ?_⟩
  refine List.forall_mem_cons.mpr ⟨s_callV (pc := 20) X (idx := 92) (by decide +kernel) h_X5_isSo rfl lk_RX5_92 ls_X5_isSo lz_X5_isSo li_RX5 lc_X5_isSo hv_X5_isSo ⟨Nat.le_trans hd_X5_isSo hR.1, Nat.le_trans (by have := hd_X5_isSo; omega) hR.2⟩ hcs, ?_⟩
  refine List.forall_mem_cons.mpr ⟨s_ne0 (pc := 23) X (off := 13) (by decide +kernel) (by decide), ?_⟩
  refine List.forall_mem_cons.mpr ⟨s_aload_n (pc := 26) X (i := 0) (by decide +kernel) rfl, ?_⟩
  refine List.forall_mem_cons.mpr ⟨s_iload_n (pc := 27) X (i := 1) (by decide +kernel) rfl, ?_⟩
  refine List.forall_mem_cons.mpr ⟨s_iload_n (pc := 28) X (i := 3) (by decide +kernel) rfl, ?_⟩
  refine List.forall_mem_cons.mpr ⟨s_iload_n (pc := 29) X (i := 2) (by decide +kernel) rfl, ?_⟩
  refine List.forall_mem_cons.mpr ⟨s_callV (pc := 30) X (idx := 92) (by decide +kernel) h_X5_isSo rfl lk_RX5_92 ls_X5_isSo lz_X5_isSo li_RX5 lc_X5_isSo hv_X5_isSo ⟨Nat.le_trans hd_X5_isSo hR.1, Nat.le_trans (by have := hd_X5_isSo; omega) hR.2⟩ hcs, ?_⟩
  refine List.forall_mem_cons.mpr ⟨s_eq0 (pc := 33) X (off := 7) (by decide +kernel) (by decide), ?_⟩
  refine List.forall_mem_cons.mpr ⟨s_iconst (pc := 36) X (n := 1) (by decide +kernel) (by decide), ?_⟩
  refine List.forall_mem_cons.mpr ⟨s_goto (pc := 37) X (off := 4) (by decide +kernel) (by decide), ?_⟩
  refine List.forall_mem_cons.mpr ⟨s_iconst (pc := 40) X (n := 0) (by decide +kernel) (by decide), ?_⟩
  refine List.forall_mem_cons.mpr ⟨s_retZ (pc := 41) (by decide +kernel), ?_⟩
  exact fun _ h => absurd h List.not_mem_nil
def T_X5_broken0 (E : Ex) (env : Nat → Mf) : List (Nat × Stq) := [(0, o_ic 1 (0)),
  (1, o_is 2 2),
  (2, o_ic 3 (0)),
  (3, o_is 4 3),
  (4, o_il 5 3),
  (5, o_ic 7 (16)),
  (7, o_ge 53 10),
  (10, o_il 11 3),
  (11, o_ic 12 (1)),
  (12, o_b2 13 (fun x y => x + y)),
  (13, o_is 15 4),
  (15, o_il 17 4),
  (17, o_ic 19 (16)),
  (19, o_ge 47 22),
  (22, o_il 23 2),
  (23, o_al 24 0),
  (24, o_il 25 1),
  (25, o_il 26 3),
  (26, o_il 28 4),
  (28, o_callV SH env 31 95 3 5),
  (31, o_eq0 38 34),
  (34, o_ic 35 (1)),
  (35, o_goto 39),
  (38, o_ic 39 (0)),
  (39, o_b2 40 (fun x y => x + y)),
  (40, o_is 41 2),
  (41, o_inc 44 4 (1)),
  (44, o_goto 15),
  (47, o_inc 50 3 (1)),
  (50, o_goto 4),
  (53, o_il 54 2),
  (54, o_ret)]
set_option maxRecDepth 100000 in
set_option maxHeartbeats 4000000 in
theorem ts_X5_broken0 {p : Program} {l : Launch} {e : Env} {R : Room} {s : State} {m : MethodId} {args : Array Value} {below : List Frame} {meth : Method} {c : Code} {cells slots : Nat} {Q : State → Prop} {D : va_G} {C : CI3} {A : Nat → Prop} {ad : Nat → Nat} {E : Ex} {env : Nat → Mf} {d : Nat} (X : Cx p R s m args c cX5_broken0 5 RX5 D C A ad SH E) (hR : d ≤ R.frames ∧ 100 * d ≤ R.locals) (hcs : cells ≤ R.cells ∧ slots ≤ R.slots) {d_X5_breaks : Nat} (h_X5_breaks : CM l SH E yX5_breaks cX5_breaks 4 (some .boolean) d_X5_breaks (env 95)) (hd_X5_breaks : d_X5_breaks + 1 ≤ d) : ∀ q ∈ T_X5_broken0 E env, SS p l e R s m args below meth c cells slots Q D C A ad SH 5 cX5_broken0 (some .int) q.1 q.2 := by
  unfold T_X5_broken0
  refine List.forall_mem_cons.mpr ⟨s_iconst (pc := 0) X (n := 0) (by decide +kernel) (by decide), ?_⟩
  refine List.forall_mem_cons.mpr ⟨s_istore_n (pc := 1) X (i := 2) (by decide +kernel) rfl (by decide), ?_⟩
  refine List.forall_mem_cons.mpr ⟨s_iconst (pc := 2) X (n := 0) (by decide +kernel) (by decide), ?_⟩
  refine List.forall_mem_cons.mpr ⟨s_istore_n (pc := 3) X (i := 3) (by decide +kernel) rfl (by decide), ?_⟩
  refine List.forall_mem_cons.mpr ⟨s_iload_n (pc := 4) X (i := 3) (by decide +kernel) rfl, ?_⟩
  refine List.forall_mem_cons.mpr ⟨s_bipush (pc := 5) X (n := 16) (by decide +kernel) (by decide), ?_⟩
  refine List.forall_mem_cons.mpr ⟨s_ge (pc := 7) X (off := 46) (by decide +kernel) (by decide), ?_⟩
  refine List.forall_mem_cons.mpr ⟨s_iload_n (pc := 10) X (i := 3) (by decide +kernel) rfl, ?_⟩
  refine List.forall_mem_cons.mpr ⟨s_iconst (pc := 11) X (n := 1) (by decide +kernel) (by decide), ?_⟩
  refine List.forall_mem_cons.mpr ⟨s_iadd (pc := 12) X (by decide +kernel), ?_⟩
  refine List.forall_mem_cons.mpr ⟨s_istore (pc := 13) X (by decide +kernel) (by decide), ?_⟩
  refine List.forall_mem_cons.mpr ⟨s_iload (pc := 15) X (by decide +kernel), ?_⟩
  refine List.forall_mem_cons.mpr ⟨s_bipush (pc := 17) X (n := 16) (by decide +kernel) (by decide), ?_⟩
  refine List.forall_mem_cons.mpr ⟨s_ge (pc := 19) X (off := 28) (by decide +kernel) (by decide), ?_⟩
  refine List.forall_mem_cons.mpr ⟨s_iload_n (pc := 22) X (i := 2) (by decide +kernel) rfl, ?_⟩
  refine List.forall_mem_cons.mpr ⟨s_aload_n (pc := 23) X (i := 0) (by decide +kernel) rfl, ?_⟩
  refine List.forall_mem_cons.mpr ⟨s_iload_n (pc := 24) X (i := 1) (by decide +kernel) rfl, ?_⟩
  refine List.forall_mem_cons.mpr ⟨s_iload_n (pc := 25) X (i := 3) (by decide +kernel) rfl, ?_⟩
  refine List.forall_mem_cons.mpr ⟨s_iload (pc := 26) X (by decide +kernel), ?_⟩
  refine List.forall_mem_cons.mpr ⟨s_callV (pc := 28) X (idx := 95) (by decide +kernel) h_X5_breaks rfl lk_RX5_95 ls_X5_breaks lz_X5_breaks li_RX5 lc_X5_breaks hv_X5_breaks ⟨Nat.le_trans hd_X5_breaks hR.1, Nat.le_trans (by have := hd_X5_breaks; omega) hR.2⟩ hcs, ?_⟩
  refine List.forall_mem_cons.mpr ⟨s_eq0 (pc := 31) X (off := 7) (by decide +kernel) (by decide), ?_⟩
  refine List.forall_mem_cons.mpr ⟨s_iconst (pc := 34) X (n := 1) (by decide +kernel) (by decide), ?_⟩
  refine List.forall_mem_cons.mpr ⟨s_goto (pc := 35) X (off := 4) (by decide +kernel) (by decide), ?_⟩
  refine List.forall_mem_cons.mpr ⟨s_iconst (pc := 38) X (n := 0) (by decide +kernel) (by decide), ?_⟩
  refine List.forall_mem_cons.mpr ⟨s_iadd (pc := 39) X (by decide +kernel), ?_⟩
  refine List.forall_mem_cons.mpr ⟨s_istore_n (pc := 40) X (i := 2) (by decide +kernel) rfl (by decide), ?_⟩
  refine List.forall_mem_cons.mpr ⟨s_iinc (pc := 41) X (n := 1) (by decide +kernel) (by decide) (by decide), ?_⟩
  refine List.forall_mem_cons.mpr ⟨s_goto (pc := 44) X (off := -29) (by decide +kernel) (by decide), ?_⟩
  refine List.forall_mem_cons.mpr ⟨s_iinc (pc := 47) X (n := 1) (by decide +kernel) (by decide) (by decide), ?_⟩
  refine List.forall_mem_cons.mpr ⟨s_goto (pc := 50) X (off := -46) (by decide +kernel) (by decide), ?_⟩
  refine List.forall_mem_cons.mpr ⟨s_iload_n (pc := 53) X (i := 2) (by decide +kernel) rfl, ?_⟩
  refine List.forall_mem_cons.mpr ⟨s_ret (pc := 54) rfl (by decide +kernel), ?_⟩
  exact fun _ h => absurd h List.not_mem_nil
def T_X5_broken (E : Ex) (env : Nat → Mf) : List (Nat × Stq) := [(0, o_al 1 0),
  (1, o_il 2 1),
  (2, o_callV SH env 5 90 1 5),
  (5, o_eq0 16 8),
  (8, o_al 9 0),
  (9, o_il 10 1),
  (10, o_callV SH env 13 96 1 5),
  (13, o_goto 17),
  (16, o_ic 17 (-1)),
  (17, o_ret)]
set_option maxRecDepth 100000 in
set_option maxHeartbeats 4000000 in
theorem ts_X5_broken {p : Program} {l : Launch} {e : Env} {R : Room} {s : State} {m : MethodId} {args : Array Value} {below : List Frame} {meth : Method} {c : Code} {cells slots : Nat} {Q : State → Prop} {D : va_G} {C : CI3} {A : Nat → Prop} {ad : Nat → Nat} {E : Ex} {env : Nat → Mf} {d : Nat} (X : Cx p R s m args c cX5_broken 2 RX5 D C A ad SH E) (hR : d ≤ R.frames ∧ 100 * d ≤ R.locals) (hcs : cells ≤ R.cells ∧ slots ≤ R.slots) {d_X5_isLaw : Nat} (h_X5_isLaw : CM l SH E yX5_isLaw cX5_isLaw 2 (some .boolean) d_X5_isLaw (env 90)) (hd_X5_isLaw : d_X5_isLaw + 1 ≤ d) {d_X5_broken0 : Nat} (h_X5_broken0 : CM l SH E yX5_broken0 cX5_broken0 5 (some .int) d_X5_broken0 (env 96)) (hd_X5_broken0 : d_X5_broken0 + 1 ≤ d) : ∀ q ∈ T_X5_broken E env, SS p l e R s m args below meth c cells slots Q D C A ad SH 2 cX5_broken (some .int) q.1 q.2 := by
  unfold T_X5_broken
  refine List.forall_mem_cons.mpr ⟨s_aload_n (pc := 0) X (i := 0) (by decide +kernel) rfl, ?_⟩
  refine List.forall_mem_cons.mpr ⟨s_iload_n (pc := 1) X (i := 1) (by decide +kernel) rfl, ?_⟩
  refine List.forall_mem_cons.mpr ⟨s_callV (pc := 2) X (idx := 86) (by decide +kernel) h_X5_isLaw rfl lk_RX5_86 ls_X5_isLaw lz_X5_isLaw li_RX5 lc_X5_isLaw hv_X5_isLaw ⟨Nat.le_trans hd_X5_isLaw hR.1, Nat.le_trans (by have := hd_X5_isLaw; omega) hR.2⟩ hcs, ?_⟩
  refine List.forall_mem_cons.mpr ⟨s_eq0 (pc := 5) X (off := 11) (by decide +kernel) (by decide), ?_⟩
  refine List.forall_mem_cons.mpr ⟨s_aload_n (pc := 8) X (i := 0) (by decide +kernel) rfl, ?_⟩
  refine List.forall_mem_cons.mpr ⟨s_iload_n (pc := 9) X (i := 1) (by decide +kernel) rfl, ?_⟩
  refine List.forall_mem_cons.mpr ⟨s_callV (pc := 10) X (idx := 98) (by decide +kernel) h_X5_broken0 rfl lk_RX5_98 ls_X5_broken0 lz_X5_broken0 li_RX5 lc_X5_broken0 hv_X5_broken0 ⟨Nat.le_trans hd_X5_broken0 hR.1, Nat.le_trans (by have := hd_X5_broken0; omega) hR.2⟩ hcs, ?_⟩
  refine List.forall_mem_cons.mpr ⟨s_goto (pc := 13) X (off := 4) (by decide +kernel) (by decide), ?_⟩
  refine List.forall_mem_cons.mpr ⟨s_iconst (pc := 16) X (n := -1) (by decide +kernel) (by decide), ?_⟩
  refine List.forall_mem_cons.mpr ⟨s_ret (pc := 17) rfl (by decide +kernel), ?_⟩
  exact fun _ h => absurd h List.not_mem_nil
def T_X5_breaker_0 (E : Ex) (env : Nat → Mf) : List (Nat × Stq) := [(0, o_al 1 0),
  (1, o_il 2 1),
  (2, o_callV SH env 5 90 1 5),
  (5, o_eq0 21 8),
  (8, o_il 9 3),
  (9, o_ic 10 (0)),
  (10, o_ic 11 (1)),
  (11, o_call env 14 64 3),
  (14, o_eq0 21 17),
  (17, o_il 18 2),
  (18, o_ge0 23 21),
  (21, o_ic 22 (-1)),
  (22, o_ret),
  (23, o_ic 24 (0)),
  (24, o_is 26 4),
  (26, o_ic 27 (0)),
  (27, o_is 29 5),
  (29, o_il 31 5),
  (31, o_ic 33 (16)),
  (33, o_ge 97 36),
  (36, o_il 38 5),
  (38, o_ic 39 (1)),
  (39, o_b2 40 (fun x y => x + y)),
  (40, o_is 42 6),
  (42, o_il 44 6),
  (44, o_ic 46 (16)),
  (46, o_ge 91 49),
  (49, o_al 50 0),
  (50, o_il 51 1),
  (51, o_il 53 5),
  (53, o_il 55 6),
  (55, o_callV SH env 58 95 3 5),
  (58, o_ne0 64 61),
  (61, o_goto 85),
  (64, o_il 66 4),
  (66, o_il 67 2),
  (67, o_ne 82 70),
  (70, o_il 71 3),
  (71, o_ne0 79 74),
  (74, o_il 76 5)]
set_option maxRecDepth 100000 in
set_option maxHeartbeats 4000000 in
theorem ts_X5_breaker_0 {p : Program} {l : Launch} {e : Env} {R : Room} {s : State} {m : MethodId} {args : Array Value} {below : List Frame} {meth : Method} {c : Code} {cells slots : Nat} {Q : State → Prop} {D : va_G} {C : CI3} {A : Nat → Prop} {ad : Nat → Nat} {E : Ex} {env : Nat → Mf} {d : Nat} (X : Cx p R s m args c cX5_breaker 7 RX5 D C A ad SH E) (hR : d ≤ R.frames ∧ 100 * d ≤ R.locals) (hcs : cells ≤ R.cells ∧ slots ≤ R.slots) {d_X5_isLaw : Nat} (h_X5_isLaw : CM l SH E yX5_isLaw cX5_isLaw 2 (some .boolean) d_X5_isLaw (env 90)) (hd_X5_isLaw : d_X5_isLaw + 1 ≤ d) {d_X5_isIn : Nat} (h_X5_isIn : CM l SH E yX5_isIn cX5_isIn 3 (some .boolean) d_X5_isIn (env 64)) (hd_X5_isIn : d_X5_isIn + 1 ≤ d) {d_X5_breaks : Nat} (h_X5_breaks : CM l SH E yX5_breaks cX5_breaks 4 (some .boolean) d_X5_breaks (env 95)) (hd_X5_breaks : d_X5_breaks + 1 ≤ d) : ∀ q ∈ T_X5_breaker_0 E env, SS p l e R s m args below meth c cells slots Q D C A ad SH 7 cX5_breaker (some .int) q.1 q.2 := by
  unfold T_X5_breaker_0
  refine List.forall_mem_cons.mpr ⟨s_aload_n (pc := 0) X (i := 0) (by decide +kernel) rfl, ?_⟩
  refine List.forall_mem_cons.mpr ⟨s_iload_n (pc := 1) X (i := 1) (by decide +kernel) rfl, ?_⟩
  refine List.forall_mem_cons.mpr ⟨s_callV (pc := 2) X (idx := 86) (by decide +kernel) h_X5_isLaw rfl lk_RX5_86 ls_X5_isLaw lz_X5_isLaw li_RX5 lc_X5_isLaw hv_X5_isLaw ⟨Nat.le_trans hd_X5_isLaw hR.1, Nat.le_trans (by have := hd_X5_isLaw; omega) hR.2⟩ hcs, ?_⟩
  refine List.forall_mem_cons.mpr ⟨s_eq0 (pc := 5) X (off := 16) (by decide +kernel) (by decide), ?_⟩
  refine List.forall_mem_cons.mpr ⟨s_iload_n (pc := 8) X (i := 3) (by decide +kernel) rfl, ?_⟩
  refine List.forall_mem_cons.mpr ⟨s_iconst (pc := 9) X (n := 0) (by decide +kernel) (by decide), ?_⟩
  refine List.forall_mem_cons.mpr ⟨s_iconst (pc := 10) X (n := 1) (by decide +kernel) (by decide), ?_⟩
  refine List.forall_mem_cons.mpr ⟨s_callS (pc := 11) X (idx := 29) (by decide +kernel) h_X5_isIn lk_RX5_29 ls_X5_isIn li_RX5 lc_X5_isIn hy_X5_isIn ⟨Nat.le_trans hd_X5_isIn hR.1, Nat.le_trans (by have := hd_X5_isIn; omega) hR.2⟩ hcs, ?_⟩
  refine List.forall_mem_cons.mpr ⟨s_eq0 (pc := 14) X (off := 7) (by decide +kernel) (by decide), ?_⟩
  refine List.forall_mem_cons.mpr ⟨s_iload_n (pc := 17) X (i := 2) (by decide +kernel) rfl, ?_⟩
  refine List.forall_mem_cons.mpr ⟨s_ge0 (pc := 18) X (off := 5) (by decide +kernel) (by decide), ?_⟩
  refine List.forall_mem_cons.mpr ⟨s_iconst (pc := 21) X (n := -1) (by decide +kernel) (by decide), ?_⟩
  refine List.forall_mem_cons.mpr ⟨s_ret (pc := 22) rfl (by decide +kernel), ?_⟩
  refine List.forall_mem_cons.mpr ⟨s_iconst (pc := 23) X (n := 0) (by decide +kernel) (by decide), ?_⟩
  refine List.forall_mem_cons.mpr ⟨s_istore (pc := 24) X (by decide +kernel) (by decide), ?_⟩
  refine List.forall_mem_cons.mpr ⟨s_iconst (pc := 26) X (n := 0) (by decide +kernel) (by decide), ?_⟩
  refine List.forall_mem_cons.mpr ⟨s_istore (pc := 27) X (by decide +kernel) (by decide), ?_⟩
  refine List.forall_mem_cons.mpr ⟨s_iload (pc := 29) X (by decide +kernel), ?_⟩
  refine List.forall_mem_cons.mpr ⟨s_bipush (pc := 31) X (n := 16) (by decide +kernel) (by decide), ?_⟩
  refine List.forall_mem_cons.mpr ⟨s_ge (pc := 33) X (off := 64) (by decide +kernel) (by decide), ?_⟩
  refine List.forall_mem_cons.mpr ⟨s_iload (pc := 36) X (by decide +kernel), ?_⟩
  refine List.forall_mem_cons.mpr ⟨s_iconst (pc := 38) X (n := 1) (by decide +kernel) (by decide), ?_⟩
  refine List.forall_mem_cons.mpr ⟨s_iadd (pc := 39) X (by decide +kernel), ?_⟩
  refine List.forall_mem_cons.mpr ⟨s_istore (pc := 40) X (by decide +kernel) (by decide), ?_⟩
  refine List.forall_mem_cons.mpr ⟨s_iload (pc := 42) X (by decide +kernel), ?_⟩
  refine List.forall_mem_cons.mpr ⟨s_bipush (pc := 44) X (n := 16) (by decide +kernel) (by decide), ?_⟩
  refine List.forall_mem_cons.mpr ⟨s_ge (pc := 46) X (off := 45) (by decide +kernel) (by decide), ?_⟩
  refine List.forall_mem_cons.mpr ⟨s_aload_n (pc := 49) X (i := 0) (by decide +kernel) rfl, ?_⟩
  refine List.forall_mem_cons.mpr ⟨s_iload_n (pc := 50) X (i := 1) (by decide +kernel) rfl, ?_⟩
  refine List.forall_mem_cons.mpr ⟨s_iload (pc := 51) X (by decide +kernel), ?_⟩
  refine List.forall_mem_cons.mpr ⟨s_iload (pc := 53) X (by decide +kernel), ?_⟩
  refine List.forall_mem_cons.mpr ⟨s_callV (pc := 55) X (idx := 95) (by decide +kernel) h_X5_breaks rfl lk_RX5_95 ls_X5_breaks lz_X5_breaks li_RX5 lc_X5_breaks hv_X5_breaks ⟨Nat.le_trans hd_X5_breaks hR.1, Nat.le_trans (by have := hd_X5_breaks; omega) hR.2⟩ hcs, ?_⟩
  refine List.forall_mem_cons.mpr ⟨s_ne0 (pc := 58) X (off := 6) (by decide +kernel) (by decide), ?_⟩
  refine List.forall_mem_cons.mpr ⟨s_goto (pc := 61) X (off := 24) (by decide +kernel) (by decide), ?_⟩
  refine List.forall_mem_cons.mpr ⟨s_iload (pc := 64) X (by decide +kernel), ?_⟩
  refine List.forall_mem_cons.mpr ⟨s_iload_n (pc := 66) X (i := 2) (by decide +kernel) rfl, ?_⟩
  refine List.forall_mem_cons.mpr ⟨s_ne (pc := 67) X (off := 15) (by decide +kernel) (by decide), ?_⟩
  refine List.forall_mem_cons.mpr ⟨s_iload_n (pc := 70) X (i := 3) (by decide +kernel) rfl, ?_⟩
  refine List.forall_mem_cons.mpr ⟨s_ne0 (pc := 71) X (off := 8) (by decide +kernel) (by decide), ?_⟩
  refine List.forall_mem_cons.mpr ⟨s_iload (pc := 74) X (by decide +kernel), ?_⟩
  exact fun _ h => absurd h List.not_mem_nil
def T_X5_breaker_1 (E : Ex) (env : Nat → Mf) : List (Nat × Stq) := [(76, o_goto 81),
  (79, o_il 81 6),
  (81, o_ret),
  (82, o_inc 85 4 (1)),
  (85, o_inc 88 6 (1)),
  (88, o_goto 42),
  (91, o_inc 94 5 (1)),
  (94, o_goto 29),
  (97, o_ic 98 (-1)),
  (98, o_ret)]
set_option maxRecDepth 100000 in
set_option maxHeartbeats 4000000 in
theorem ts_X5_breaker_1 {p : Program} {l : Launch} {e : Env} {R : Room} {s : State} {m : MethodId} {args : Array Value} {below : List Frame} {meth : Method} {c : Code} {cells slots : Nat} {Q : State → Prop} {D : va_G} {C : CI3} {A : Nat → Prop} {ad : Nat → Nat} {E : Ex} {env : Nat → Mf} {d : Nat} (X : Cx p R s m args c cX5_breaker 7 RX5 D C A ad SH E) (hR : d ≤ R.frames ∧ 100 * d ≤ R.locals) (hcs : cells ≤ R.cells ∧ slots ≤ R.slots) {d_X5_isLaw : Nat} (h_X5_isLaw : CM l SH E yX5_isLaw cX5_isLaw 2 (some .boolean) d_X5_isLaw (env 90)) (hd_X5_isLaw : d_X5_isLaw + 1 ≤ d) {d_X5_isIn : Nat} (h_X5_isIn : CM l SH E yX5_isIn cX5_isIn 3 (some .boolean) d_X5_isIn (env 64)) (hd_X5_isIn : d_X5_isIn + 1 ≤ d) {d_X5_breaks : Nat} (h_X5_breaks : CM l SH E yX5_breaks cX5_breaks 4 (some .boolean) d_X5_breaks (env 95)) (hd_X5_breaks : d_X5_breaks + 1 ≤ d) : ∀ q ∈ T_X5_breaker_1 E env, SS p l e R s m args below meth c cells slots Q D C A ad SH 7 cX5_breaker (some .int) q.1 q.2 := by
  unfold T_X5_breaker_1
  refine List.forall_mem_cons.mpr ⟨s_goto (pc := 76) X (off := 5) (by decide +kernel) (by decide), ?_⟩
  refine List.forall_mem_cons.mpr ⟨s_iload (pc := 79) X (by decide +kernel), ?_⟩
  refine List.forall_mem_cons.mpr ⟨s_ret (pc := 81) rfl (by decide +kernel), ?_⟩
  refine List.forall_mem_cons.mpr ⟨s_iinc (pc := 82) X (n := 1) (by decide +kernel) (by decide) (by decide), ?_⟩
  refine List.forall_mem_cons.mpr ⟨s_iinc (pc := 85) X (n := 1) (by decide +kernel) (by decide) (by decide), ?_⟩
  refine List.forall_mem_cons.mpr ⟨s_goto (pc := 88) X (off := -46) (by decide +kernel) (by decide), ?_⟩
  refine List.forall_mem_cons.mpr ⟨s_iinc (pc := 91) X (n := 1) (by decide +kernel) (by decide) (by decide), ?_⟩
  refine List.forall_mem_cons.mpr ⟨s_goto (pc := 94) X (off := -65) (by decide +kernel) (by decide), ?_⟩
  refine List.forall_mem_cons.mpr ⟨s_iconst (pc := 97) X (n := -1) (by decide +kernel) (by decide), ?_⟩
  refine List.forall_mem_cons.mpr ⟨s_ret (pc := 98) rfl (by decide +kernel), ?_⟩
  exact fun _ h => absurd h List.not_mem_nil
def T_X5_breaker (E : Ex) (env : Nat → Mf) : List (Nat × Stq) := T_X5_breaker_0 E env ++ (T_X5_breaker_1 E env)
theorem ts_X5_breaker {p : Program} {l : Launch} {e : Env} {R : Room} {s : State} {m : MethodId} {args : Array Value} {below : List Frame} {meth : Method} {c : Code} {cells slots : Nat} {Q : State → Prop} {D : va_G} {C : CI3} {A : Nat → Prop} {ad : Nat → Nat} {E : Ex} {env : Nat → Mf} {d : Nat} (X : Cx p R s m args c cX5_breaker 7 RX5 D C A ad SH E) (hR : d ≤ R.frames ∧ 100 * d ≤ R.locals) (hcs : cells ≤ R.cells ∧ slots ≤ R.slots) {d_X5_isLaw : Nat} (h_X5_isLaw : CM l SH E yX5_isLaw cX5_isLaw 2 (some .boolean) d_X5_isLaw (env 90)) (hd_X5_isLaw : d_X5_isLaw + 1 ≤ d) {d_X5_isIn : Nat} (h_X5_isIn : CM l SH E yX5_isIn cX5_isIn 3 (some .boolean) d_X5_isIn (env 64)) (hd_X5_isIn : d_X5_isIn + 1 ≤ d) {d_X5_breaks : Nat} (h_X5_breaks : CM l SH E yX5_breaks cX5_breaks 4 (some .boolean) d_X5_breaks (env 95)) (hd_X5_breaks : d_X5_breaks + 1 ≤ d) : ∀ q ∈ T_X5_breaker E env, SS p l e R s m args below meth c cells slots Q D C A ad SH 7 cX5_breaker (some .int) q.1 q.2 := List.forall_mem_append.mpr ⟨ts_X5_breaker_0 X hR hcs h_X5_isLaw hd_X5_isLaw h_X5_isIn hd_X5_isIn h_X5_breaks hd_X5_breaks, ts_X5_breaker_1 X hR hcs h_X5_isLaw hd_X5_isLaw h_X5_isIn hd_X5_isIn h_X5_breaks hd_X5_breaks⟩
def T_X5_saysAll (E : Ex) (env : Nat → Mf) : List (Nat × Stq) := [(0, o_ic 1 (0)),
  (1, o_is 2 2),
  (2, o_il 3 2),
  (3, o_ic 4 (4)),
  (4, o_ge 62 7),
  (7, o_il 8 0),
  (8, o_il 9 2),
  (9, o_call env 12 83 2),
  (12, o_is 13 3),
  (13, o_il 14 1),
  (14, o_il 15 2),
  (15, o_call env 18 83 2),
  (18, o_is 20 4),
  (20, o_il 22 4),
  (22, o_eq0 42 25),
  (25, o_il 26 3),
  (26, o_il 28 4),
  (28, o_eq 42 31),
  (31, o_il 33 4),
  (33, o_ic 34 (2)),
  (34, o_ne 46 37),
  (37, o_il 38 3),
  (38, o_ic 39 (2)),
  (39, o_le 46 42),
  (42, o_ic 43 (1)),
  (43, o_goto 47),
  (46, o_ic 47 (0)),
  (47, o_is 49 5),
  (49, o_il 51 5),
  (51, o_ne0 56 54),
  (54, o_ic 55 (0)),
  (55, o_retZ),
  (56, o_inc 59 2 (1)),
  (59, o_goto 2),
  (62, o_ic 63 (1)),
  (63, o_retZ)]
set_option maxRecDepth 100000 in
set_option maxHeartbeats 4000000 in
theorem ts_X5_saysAll {p : Program} {l : Launch} {e : Env} {R : Room} {s : State} {m : MethodId} {args : Array Value} {below : List Frame} {meth : Method} {c : Code} {cells slots : Nat} {Q : State → Prop} {D : va_G} {C : CI3} {A : Nat → Prop} {ad : Nat → Nat} {E : Ex} {env : Nat → Mf} {d : Nat} (X : Cx p R s m args c cX5_saysAll 6 RX5 D C A ad SH E) (hR : d ≤ R.frames ∧ 100 * d ≤ R.locals) (hcs : cells ≤ R.cells ∧ slots ≤ R.slots) {d_X5_digit : Nat} (h_X5_digit : CM l SH E yX5_digit cX5_digit 2 (some .int) d_X5_digit (env 83)) (hd_X5_digit : d_X5_digit + 1 ≤ d) : ∀ q ∈ T_X5_saysAll E env, SS p l e R s m args below meth c cells slots Q D C A ad SH 6 cX5_saysAll (some .boolean) q.1 q.2 := by
  unfold T_X5_saysAll
  refine List.forall_mem_cons.mpr ⟨s_iconst (pc := 0) X (n := 0) (by decide +kernel) (by decide), ?_⟩
  refine List.forall_mem_cons.mpr ⟨s_istore_n (pc := 1) X (i := 2) (by decide +kernel) rfl (by decide), ?_⟩
  refine List.forall_mem_cons.mpr ⟨s_iload_n (pc := 2) X (i := 2) (by decide +kernel) rfl, ?_⟩
  refine List.forall_mem_cons.mpr ⟨s_iconst (pc := 3) X (n := 4) (by decide +kernel) (by decide), ?_⟩
  refine List.forall_mem_cons.mpr ⟨s_ge (pc := 4) X (off := 58) (by decide +kernel) (by decide), ?_⟩
  refine List.forall_mem_cons.mpr ⟨s_iload_n (pc := 7) X (i := 0) (by decide +kernel) rfl, ?_⟩
  refine List.forall_mem_cons.mpr ⟨s_iload_n (pc := 8) X (i := 2) (by decide +kernel) rfl, ?_⟩
  refine List.forall_mem_cons.mpr ⟨s_callS (pc := 9) X (idx := 77) (by decide +kernel) h_X5_digit lk_RX5_77 ls_X5_digit li_RX5 lc_X5_digit hy_X5_digit ⟨Nat.le_trans hd_X5_digit hR.1, Nat.le_trans (by have := hd_X5_digit; omega) hR.2⟩ hcs, ?_⟩
  refine List.forall_mem_cons.mpr ⟨s_istore_n (pc := 12) X (i := 3) (by decide +kernel) rfl (by decide), ?_⟩
  refine List.forall_mem_cons.mpr ⟨s_iload_n (pc := 13) X (i := 1) (by decide +kernel) rfl, ?_⟩
  refine List.forall_mem_cons.mpr ⟨s_iload_n (pc := 14) X (i := 2) (by decide +kernel) rfl, ?_⟩
  refine List.forall_mem_cons.mpr ⟨s_callS (pc := 15) X (idx := 77) (by decide +kernel) h_X5_digit lk_RX5_77 ls_X5_digit li_RX5 lc_X5_digit hy_X5_digit ⟨Nat.le_trans hd_X5_digit hR.1, Nat.le_trans (by have := hd_X5_digit; omega) hR.2⟩ hcs, ?_⟩
  refine List.forall_mem_cons.mpr ⟨s_istore (pc := 18) X (by decide +kernel) (by decide), ?_⟩
  refine List.forall_mem_cons.mpr ⟨s_iload (pc := 20) X (by decide +kernel), ?_⟩
  refine List.forall_mem_cons.mpr ⟨s_eq0 (pc := 22) X (off := 20) (by decide +kernel) (by decide), ?_⟩
  refine List.forall_mem_cons.mpr ⟨s_iload_n (pc := 25) X (i := 3) (by decide +kernel) rfl, ?_⟩
  refine List.forall_mem_cons.mpr ⟨s_iload (pc := 26) X (by decide +kernel), ?_⟩
  refine List.forall_mem_cons.mpr ⟨s_eq (pc := 28) X (off := 14) (by decide +kernel) (by decide), ?_⟩
  refine List.forall_mem_cons.mpr ⟨s_iload (pc := 31) X (by decide +kernel), ?_⟩
  refine List.forall_mem_cons.mpr ⟨s_iconst (pc := 33) X (n := 2) (by decide +kernel) (by decide), ?_⟩
  refine List.forall_mem_cons.mpr ⟨s_ne (pc := 34) X (off := 12) (by decide +kernel) (by decide), ?_⟩
  refine List.forall_mem_cons.mpr ⟨s_iload_n (pc := 37) X (i := 3) (by decide +kernel) rfl, ?_⟩
  refine List.forall_mem_cons.mpr ⟨s_iconst (pc := 38) X (n := 2) (by decide +kernel) (by decide), ?_⟩
  refine List.forall_mem_cons.mpr ⟨s_le (pc := 39) X (off := 7) (by decide +kernel) (by decide), ?_⟩
  refine List.forall_mem_cons.mpr ⟨s_iconst (pc := 42) X (n := 1) (by decide +kernel) (by decide), ?_⟩
  refine List.forall_mem_cons.mpr ⟨s_goto (pc := 43) X (off := 4) (by decide +kernel) (by decide), ?_⟩
  refine List.forall_mem_cons.mpr ⟨s_iconst (pc := 46) X (n := 0) (by decide +kernel) (by decide), ?_⟩
  refine List.forall_mem_cons.mpr ⟨s_istore (pc := 47) X (by decide +kernel) (by decide), ?_⟩
  refine List.forall_mem_cons.mpr ⟨s_iload (pc := 49) X (by decide +kernel), ?_⟩
  refine List.forall_mem_cons.mpr ⟨s_ne0 (pc := 51) X (off := 5) (by decide +kernel) (by decide), ?_⟩
  refine List.forall_mem_cons.mpr ⟨s_iconst (pc := 54) X (n := 0) (by decide +kernel) (by decide), ?_⟩
  refine List.forall_mem_cons.mpr ⟨s_retZ (pc := 55) (by decide +kernel), ?_⟩
  refine List.forall_mem_cons.mpr ⟨s_iinc (pc := 56) X (n := 1) (by decide +kernel) (by decide) (by decide), ?_⟩
  refine List.forall_mem_cons.mpr ⟨s_goto (pc := 59) X (off := -57) (by decide +kernel) (by decide), ?_⟩
  refine List.forall_mem_cons.mpr ⟨s_iconst (pc := 62) X (n := 1) (by decide +kernel) (by decide), ?_⟩
  refine List.forall_mem_cons.mpr ⟨s_retZ (pc := 63) (by decide +kernel), ?_⟩
  exact fun _ h => absurd h List.not_mem_nil
def T_X5_isSaid (E : Ex) (env : Nat → Mf) : List (Nat × Stq) := [(0, o_il 1 1),
  (1, o_il 2 2),
  (2, o_call env 5 99 2),
  (5, o_ne0 20 8),
  (8, o_il 9 1),
  (9, o_al 10 0),
  (10, o_il 11 2),
  (11, o_callV SH env 14 91 1 5),
  (14, o_call env 17 99 2),
  (17, o_eq0 24 20),
  (20, o_ic 21 (1)),
  (21, o_goto 25),
  (24, o_ic 25 (0)),
  (25, o_retZ)]
set_option maxRecDepth 100000 in
set_option maxHeartbeats 4000000 in
theorem ts_X5_isSaid {p : Program} {l : Launch} {e : Env} {R : Room} {s : State} {m : MethodId} {args : Array Value} {below : List Frame} {meth : Method} {c : Code} {cells slots : Nat} {Q : State → Prop} {D : va_G} {C : CI3} {A : Nat → Prop} {ad : Nat → Nat} {E : Ex} {env : Nat → Mf} {d : Nat} (X : Cx p R s m args c cX5_isSaid 3 RX5 D C A ad SH E) (hR : d ≤ R.frames ∧ 100 * d ≤ R.locals) (hcs : cells ≤ R.cells ∧ slots ≤ R.slots) {d_X5_saysAll : Nat} (h_X5_saysAll : CM l SH E yX5_saysAll cX5_saysAll 6 (some .boolean) d_X5_saysAll (env 99)) (hd_X5_saysAll : d_X5_saysAll + 1 ≤ d) {d_X5_turned : Nat} (h_X5_turned : CM l SH E yX5_turned cX5_turned 4 (some .int) d_X5_turned (env 91)) (hd_X5_turned : d_X5_turned + 1 ≤ d) : ∀ q ∈ T_X5_isSaid E env, SS p l e R s m args below meth c cells slots Q D C A ad SH 3 cX5_isSaid (some .boolean) q.1 q.2 := by
  unfold T_X5_isSaid
  refine List.forall_mem_cons.mpr ⟨s_iload_n (pc := 0) X (i := 1) (by decide +kernel) rfl, ?_⟩
  refine List.forall_mem_cons.mpr ⟨s_iload_n (pc := 1) X (i := 2) (by decide +kernel) rfl, ?_⟩
  refine List.forall_mem_cons.mpr ⟨s_callS (pc := 2) X (idx := 101) (by decide +kernel) h_X5_saysAll lk_RX5_101 ls_X5_saysAll li_RX5 lc_X5_saysAll hy_X5_saysAll ⟨Nat.le_trans hd_X5_saysAll hR.1, Nat.le_trans (by have := hd_X5_saysAll; omega) hR.2⟩ hcs, ?_⟩
  refine List.forall_mem_cons.mpr ⟨s_ne0 (pc := 5) X (off := 15) (by decide +kernel) (by decide), ?_⟩
  refine List.forall_mem_cons.mpr ⟨s_iload_n (pc := 8) X (i := 1) (by decide +kernel) rfl, ?_⟩
  refine List.forall_mem_cons.mpr ⟨s_aload_n (pc := 9) X (i := 0) (by decide +kernel) rfl, ?_⟩
  refine List.forall_mem_cons.mpr ⟨s_iload_n (pc := 10) X (i := 2) (by decide +kernel) rfl, ?_⟩
  refine List.forall_mem_cons.mpr ⟨s_callV (pc := 11) X (idx := 83) (by decide +kernel) h_X5_turned rfl lk_RX5_83 ls_X5_turned lz_X5_turned li_RX5 lc_X5_turned hv_X5_turned ⟨Nat.le_trans hd_X5_turned hR.1, Nat.le_trans (by have := hd_X5_turned; omega) hR.2⟩ hcs, ?_⟩
  refine List.forall_mem_cons.mpr ⟨s_callS (pc := 14) X (idx := 101) (by decide +kernel) h_X5_saysAll lk_RX5_101 ls_X5_saysAll li_RX5 lc_X5_saysAll hy_X5_saysAll ⟨Nat.le_trans hd_X5_saysAll hR.1, Nat.le_trans (by have := hd_X5_saysAll; omega) hR.2⟩ hcs, ?_⟩
  refine List.forall_mem_cons.mpr ⟨s_eq0 (pc := 17) X (off := 7) (by decide +kernel) (by decide), ?_⟩
  refine List.forall_mem_cons.mpr ⟨s_iconst (pc := 20) X (n := 1) (by decide +kernel) (by decide), ?_⟩
  refine List.forall_mem_cons.mpr ⟨s_goto (pc := 21) X (off := 4) (by decide +kernel) (by decide), ?_⟩
  refine List.forall_mem_cons.mpr ⟨s_iconst (pc := 24) X (n := 0) (by decide +kernel) (by decide), ?_⟩
  refine List.forall_mem_cons.mpr ⟨s_retZ (pc := 25) (by decide +kernel), ?_⟩
  exact fun _ h => absurd h List.not_mem_nil
def T_X5_said (E : Ex) (env : Nat → Mf) : List (Nat × Stq) := [(0, o_al 1 0),
  (1, o_il 2 1),
  (2, o_callV SH env 5 90 1 5),
  (5, o_eq0 16 8),
  (8, o_al 9 0),
  (9, o_il 10 2),
  (10, o_callV SH env 13 90 1 5),
  (13, o_ne0 20 16),
  (16, o_ic 17 (-1)),
  (17, o_goto 34),
  (20, o_al 21 0),
  (21, o_il 22 1),
  (22, o_il 23 2),
  (23, o_callV SH env 26 100 2 5),
  (26, o_eq0 33 29),
  (29, o_ic 30 (1)),
  (30, o_goto 34),
  (33, o_ic 34 (0)),
  (34, o_ret)]
set_option maxRecDepth 100000 in
set_option maxHeartbeats 4000000 in
theorem ts_X5_said {p : Program} {l : Launch} {e : Env} {R : Room} {s : State} {m : MethodId} {args : Array Value} {below : List Frame} {meth : Method} {c : Code} {cells slots : Nat} {Q : State → Prop} {D : va_G} {C : CI3} {A : Nat → Prop} {ad : Nat → Nat} {E : Ex} {env : Nat → Mf} {d : Nat} (X : Cx p R s m args c cX5_said 3 RX5 D C A ad SH E) (hR : d ≤ R.frames ∧ 100 * d ≤ R.locals) (hcs : cells ≤ R.cells ∧ slots ≤ R.slots) {d_X5_isLaw : Nat} (h_X5_isLaw : CM l SH E yX5_isLaw cX5_isLaw 2 (some .boolean) d_X5_isLaw (env 90)) (hd_X5_isLaw : d_X5_isLaw + 1 ≤ d) {d_X5_isSaid : Nat} (h_X5_isSaid : CM l SH E yX5_isSaid cX5_isSaid 3 (some .boolean) d_X5_isSaid (env 100)) (hd_X5_isSaid : d_X5_isSaid + 1 ≤ d) : ∀ q ∈ T_X5_said E env, SS p l e R s m args below meth c cells slots Q D C A ad SH 3 cX5_said (some .int) q.1 q.2 := by
  unfold T_X5_said
  refine List.forall_mem_cons.mpr ⟨s_aload_n (pc := 0) X (i := 0) (by decide +kernel) rfl, ?_⟩
  refine List.forall_mem_cons.mpr ⟨s_iload_n (pc := 1) X (i := 1) (by decide +kernel) rfl, ?_⟩
  refine List.forall_mem_cons.mpr ⟨s_callV (pc := 2) X (idx := 86) (by decide +kernel) h_X5_isLaw rfl lk_RX5_86 ls_X5_isLaw lz_X5_isLaw li_RX5 lc_X5_isLaw hv_X5_isLaw ⟨Nat.le_trans hd_X5_isLaw hR.1, Nat.le_trans (by have := hd_X5_isLaw; omega) hR.2⟩ hcs, ?_⟩
  refine List.forall_mem_cons.mpr ⟨s_eq0 (pc := 5) X (off := 11) (by decide +kernel) (by decide), ?_⟩
  refine List.forall_mem_cons.mpr ⟨s_aload_n (pc := 8) X (i := 0) (by decide +kernel) rfl, ?_⟩
  refine List.forall_mem_cons.mpr ⟨s_iload_n (pc := 9) X (i := 2) (by decide +kernel) rfl, ?_⟩
  refine List.forall_mem_cons.mpr ⟨s_callV (pc := 10) X (idx := 86) (by decide +kernel) h_X5_isLaw rfl lk_RX5_86 ls_X5_isLaw lz_X5_isLaw li_RX5 lc_X5_isLaw hv_X5_isLaw ⟨Nat.le_trans hd_X5_isLaw hR.1, Nat.le_trans (by have := hd_X5_isLaw; omega) hR.2⟩ hcs, ?_⟩
  refine List.forall_mem_cons.mpr ⟨s_ne0 (pc := 13) X (off := 7) (by decide +kernel) (by decide), ?_⟩
  refine List.forall_mem_cons.mpr ⟨s_iconst (pc := 16) X (n := -1) (by decide +kernel) (by decide), ?_⟩
  refine List.forall_mem_cons.mpr ⟨s_goto (pc := 17) X (off := 17) (by decide +kernel) (by decide), ?_⟩
  refine List.forall_mem_cons.mpr ⟨s_aload_n (pc := 20) X (i := 0) (by decide +kernel) rfl, ?_⟩
  refine List.forall_mem_cons.mpr ⟨s_iload_n (pc := 21) X (i := 1) (by decide +kernel) rfl, ?_⟩
  refine List.forall_mem_cons.mpr ⟨s_iload_n (pc := 22) X (i := 2) (by decide +kernel) rfl, ?_⟩
  refine List.forall_mem_cons.mpr ⟨s_callV (pc := 23) X (idx := 104) (by decide +kernel) h_X5_isSaid rfl lk_RX5_104 ls_X5_isSaid lz_X5_isSaid li_RX5 lc_X5_isSaid hv_X5_isSaid ⟨Nat.le_trans hd_X5_isSaid hR.1, Nat.le_trans (by have := hd_X5_isSaid; omega) hR.2⟩ hcs, ?_⟩
  refine List.forall_mem_cons.mpr ⟨s_eq0 (pc := 26) X (off := 7) (by decide +kernel) (by decide), ?_⟩
  refine List.forall_mem_cons.mpr ⟨s_iconst (pc := 29) X (n := 1) (by decide +kernel) (by decide), ?_⟩
  refine List.forall_mem_cons.mpr ⟨s_goto (pc := 30) X (off := 4) (by decide +kernel) (by decide), ?_⟩
  refine List.forall_mem_cons.mpr ⟨s_iconst (pc := 33) X (n := 0) (by decide +kernel) (by decide), ?_⟩
  refine List.forall_mem_cons.mpr ⟨s_ret (pc := 34) rfl (by decide +kernel), ?_⟩
  exact fun _ h => absurd h List.not_mem_nil
def T_X5_size (E : Ex) (env : Nat → Mf) : List (Nat × Stq) := [(0, o_ic 1 (0)),
  (1, o_is 2 1),
  (2, o_ic 3 (0)),
  (3, o_is 4 2),
  (4, o_il 5 2),
  (5, o_ic 6 (4)),
  (6, o_ge 31 9),
  (9, o_il 10 1),
  (10, o_il 11 0),
  (11, o_il 12 2),
  (12, o_call env 15 83 2),
  (15, o_le0 22 18),
  (18, o_ic 19 (1)),
  (19, o_goto 23),
  (22, o_ic 23 (0)),
  (23, o_b2 24 (fun x y => x + y)),
  (24, o_is 25 1),
  (25, o_inc 28 2 (1)),
  (28, o_goto 4),
  (31, o_il 32 1),
  (32, o_ret)]
set_option maxRecDepth 100000 in
set_option maxHeartbeats 4000000 in
theorem ts_X5_size {p : Program} {l : Launch} {e : Env} {R : Room} {s : State} {m : MethodId} {args : Array Value} {below : List Frame} {meth : Method} {c : Code} {cells slots : Nat} {Q : State → Prop} {D : va_G} {C : CI3} {A : Nat → Prop} {ad : Nat → Nat} {E : Ex} {env : Nat → Mf} {d : Nat} (X : Cx p R s m args c cX5_size 3 RX5 D C A ad SH E) (hR : d ≤ R.frames ∧ 100 * d ≤ R.locals) (hcs : cells ≤ R.cells ∧ slots ≤ R.slots) {d_X5_digit : Nat} (h_X5_digit : CM l SH E yX5_digit cX5_digit 2 (some .int) d_X5_digit (env 83)) (hd_X5_digit : d_X5_digit + 1 ≤ d) : ∀ q ∈ T_X5_size E env, SS p l e R s m args below meth c cells slots Q D C A ad SH 3 cX5_size (some .int) q.1 q.2 := by
  unfold T_X5_size
  refine List.forall_mem_cons.mpr ⟨s_iconst (pc := 0) X (n := 0) (by decide +kernel) (by decide), ?_⟩
  refine List.forall_mem_cons.mpr ⟨s_istore_n (pc := 1) X (i := 1) (by decide +kernel) rfl (by decide), ?_⟩
  refine List.forall_mem_cons.mpr ⟨s_iconst (pc := 2) X (n := 0) (by decide +kernel) (by decide), ?_⟩
  refine List.forall_mem_cons.mpr ⟨s_istore_n (pc := 3) X (i := 2) (by decide +kernel) rfl (by decide), ?_⟩
  refine List.forall_mem_cons.mpr ⟨s_iload_n (pc := 4) X (i := 2) (by decide +kernel) rfl, ?_⟩
  refine List.forall_mem_cons.mpr ⟨s_iconst (pc := 5) X (n := 4) (by decide +kernel) (by decide), ?_⟩
  refine List.forall_mem_cons.mpr ⟨s_ge (pc := 6) X (off := 25) (by decide +kernel) (by decide), ?_⟩
  refine List.forall_mem_cons.mpr ⟨s_iload_n (pc := 9) X (i := 1) (by decide +kernel) rfl, ?_⟩
  refine List.forall_mem_cons.mpr ⟨s_iload_n (pc := 10) X (i := 0) (by decide +kernel) rfl, ?_⟩
  refine List.forall_mem_cons.mpr ⟨s_iload_n (pc := 11) X (i := 2) (by decide +kernel) rfl, ?_⟩
  refine List.forall_mem_cons.mpr ⟨s_callS (pc := 12) X (idx := 77) (by decide +kernel) h_X5_digit lk_RX5_77 ls_X5_digit li_RX5 lc_X5_digit hy_X5_digit ⟨Nat.le_trans hd_X5_digit hR.1, Nat.le_trans (by have := hd_X5_digit; omega) hR.2⟩ hcs, ?_⟩
  refine List.forall_mem_cons.mpr ⟨s_le0 (pc := 15) X (off := 7) (by decide +kernel) (by decide), ?_⟩
  refine List.forall_mem_cons.mpr ⟨s_iconst (pc := 18) X (n := 1) (by decide +kernel) (by decide), ?_⟩
  refine List.forall_mem_cons.mpr ⟨s_goto (pc := 19) X (off := 4) (by decide +kernel) (by decide), ?_⟩
  refine List.forall_mem_cons.mpr ⟨s_iconst (pc := 22) X (n := 0) (by decide +kernel) (by decide), ?_⟩
  refine List.forall_mem_cons.mpr ⟨s_iadd (pc := 23) X (by decide +kernel), ?_⟩
  refine List.forall_mem_cons.mpr ⟨s_istore_n (pc := 24) X (i := 1) (by decide +kernel) rfl (by decide), ?_⟩
  refine List.forall_mem_cons.mpr ⟨s_iinc (pc := 25) X (n := 1) (by decide +kernel) (by decide) (by decide), ?_⟩
  refine List.forall_mem_cons.mpr ⟨s_goto (pc := 28) X (off := -24) (by decide +kernel) (by decide), ?_⟩
  refine List.forall_mem_cons.mpr ⟨s_iload_n (pc := 31) X (i := 1) (by decide +kernel) rfl, ?_⟩
  refine List.forall_mem_cons.mpr ⟨s_ret (pc := 32) rfl (by decide +kernel), ?_⟩
  exact fun _ h => absurd h List.not_mem_nil
def T_X5_finds_0 (E : Ex) (env : Nat → Mf) : List (Nat × Stq) := [(0, o_il 1 1),
  (1, o_ic 2 (0)),
  (2, o_ic 4 (120)),
  (4, o_call env 7 64 3),
  (7, o_eq0 19 10),
  (10, o_il 11 2),
  (11, o_ic 12 (1)),
  (12, o_ic 13 (4)),
  (13, o_call env 16 64 3),
  (16, o_ne0 21 19),
  (19, o_ic 20 (0)),
  (20, o_retZ),
  (21, o_ic 22 (1)),
  (22, o_is 23 3),
  (23, o_il 24 3),
  (24, o_al 25 0),
  (25, o_callV SH env 28 87 0 5),
  (28, o_ge 57 31),
  (31, o_al 32 0),
  (32, o_gR SH 35 5 4),
  (35, o_il 36 3),
  (36, o_al 37 0),
  (37, o_il 38 3),
  (38, o_callV SH env 41 96 1 5),
  (41, o_il 42 1),
  (42, o_gt 49 45),
  (45, o_ic 46 (1)),
  (46, o_goto 50),
  (49, o_ic 50 (0)),
  (50, o_zs SH 51),
  (51, o_inc 54 3 (1)),
  (54, o_goto 23),
  (57, o_al 58 0),
  (58, o_ic 59 (0)),
  (59, o_pI SH 62 5 6),
  (62, o_ic 63 (1)),
  (63, o_is 64 3),
  (64, o_il 65 3),
  (65, o_al 66 0),
  (66, o_callV SH env 69 87 0 5)]
set_option maxRecDepth 100000 in
set_option maxHeartbeats 4000000 in
theorem ts_X5_finds_0 {p : Program} {l : Launch} {e : Env} {R : Room} {s : State} {m : MethodId} {args : Array Value} {below : List Frame} {meth : Method} {c : Code} {cells slots : Nat} {Q : State → Prop} {D : va_G} {C : CI3} {A : Nat → Prop} {ad : Nat → Nat} {E : Ex} {env : Nat → Mf} {d : Nat} (X : Cx p R s m args c cX5_finds 6 RX5 D C A ad SH E) (hR : d ≤ R.frames ∧ 100 * d ≤ R.locals) (hcs : cells ≤ R.cells ∧ slots ≤ R.slots) {d_X5_isIn : Nat} (h_X5_isIn : CM l SH E yX5_isIn cX5_isIn 3 (some .boolean) d_X5_isIn (env 64)) (hd_X5_isIn : d_X5_isIn + 1 ≤ d) {d_X5_most : Nat} (h_X5_most : CM l SH E yX5_most cX5_most 1 (some .int) d_X5_most (env 87)) (hd_X5_most : d_X5_most + 1 ≤ d) {d_X5_broken0 : Nat} (h_X5_broken0 : CM l SH E yX5_broken0 cX5_broken0 5 (some .int) d_X5_broken0 (env 96)) (hd_X5_broken0 : d_X5_broken0 + 1 ≤ d) {d_X5_least0 : Nat} (h_X5_least0 : CM l SH E yX5_least0 cX5_least0 2 (some .int) d_X5_least0 (env 92)) (hd_X5_least0 : d_X5_least0 + 1 ≤ d) {d_X5_size : Nat} (h_X5_size : CM l SH E yX5_size cX5_size 3 (some .int) d_X5_size (env 102)) (hd_X5_size : d_X5_size + 1 ≤ d) {d_X5_turned : Nat} (h_X5_turned : CM l SH E yX5_turned cX5_turned 4 (some .int) d_X5_turned (env 91)) (hd_X5_turned : d_X5_turned + 1 ≤ d) {d_X5_isSaid : Nat} (h_X5_isSaid : CM l SH E yX5_isSaid cX5_isSaid 3 (some .boolean) d_X5_isSaid (env 100)) (hd_X5_isSaid : d_X5_isSaid + 1 ≤ d) : ∀ q ∈ T_X5_finds_0 E env, SS p l e R s m args below meth c cells slots Q D C A ad SH 6 cX5_finds (some .boolean) q.1 q.2 := by
  unfold T_X5_finds_0
  refine List.forall_mem_cons.mpr ⟨s_iload_n (pc := 0) X (i := 1) (by decide +kernel) rfl, ?_⟩
  refine List.forall_mem_cons.mpr ⟨s_iconst (pc := 1) X (n := 0) (by decide +kernel) (by decide), ?_⟩
  refine List.forall_mem_cons.mpr ⟨s_bipush (pc := 2) X (n := 120) (by decide +kernel) (by decide), ?_⟩
  refine List.forall_mem_cons.mpr ⟨s_callS (pc := 4) X (idx := 29) (by decide +kernel) h_X5_isIn lk_RX5_29 ls_X5_isIn li_RX5 lc_X5_isIn hy_X5_isIn ⟨Nat.le_trans hd_X5_isIn hR.1, Nat.le_trans (by have := hd_X5_isIn; omega) hR.2⟩ hcs, ?_⟩
  refine List.forall_mem_cons.mpr ⟨s_eq0 (pc := 7) X (off := 12) (by decide +kernel) (by decide), ?_⟩
  refine List.forall_mem_cons.mpr ⟨s_iload_n (pc := 10) X (i := 2) (by decide +kernel) rfl, ?_⟩
  refine List.forall_mem_cons.mpr ⟨s_iconst (pc := 11) X (n := 1) (by decide +kernel) (by decide), ?_⟩
  refine List.forall_mem_cons.mpr ⟨s_iconst (pc := 12) X (n := 4) (by decide +kernel) (by decide), ?_⟩
  refine List.forall_mem_cons.mpr ⟨s_callS (pc := 13) X (idx := 29) (by decide +kernel) h_X5_isIn lk_RX5_29 ls_X5_isIn li_RX5 lc_X5_isIn hy_X5_isIn ⟨Nat.le_trans hd_X5_isIn hR.1, Nat.le_trans (by have := hd_X5_isIn; omega) hR.2⟩ hcs, ?_⟩
  refine List.forall_mem_cons.mpr ⟨s_ne0 (pc := 16) X (off := 5) (by decide +kernel) (by decide), ?_⟩
  refine List.forall_mem_cons.mpr ⟨s_iconst (pc := 19) X (n := 0) (by decide +kernel) (by decide), ?_⟩
  refine List.forall_mem_cons.mpr ⟨s_retZ (pc := 20) (by decide +kernel), ?_⟩
  refine List.forall_mem_cons.mpr ⟨s_iconst (pc := 21) X (n := 1) (by decide +kernel) (by decide), ?_⟩
  refine List.forall_mem_cons.mpr ⟨s_istore_n (pc := 22) X (i := 3) (by decide +kernel) rfl (by decide), ?_⟩
  refine List.forall_mem_cons.mpr ⟨s_iload_n (pc := 23) X (i := 3) (by decide +kernel) rfl, ?_⟩
  refine List.forall_mem_cons.mpr ⟨s_aload_n (pc := 24) X (i := 0) (by decide +kernel) rfl, ?_⟩
  refine List.forall_mem_cons.mpr ⟨s_callV (pc := 25) X (idx := 74) (by decide +kernel) h_X5_most rfl lk_RX5_74 ls_X5_most lz_X5_most li_RX5 lc_X5_most hv_X5_most ⟨Nat.le_trans hd_X5_most hR.1, Nat.le_trans (by have := hd_X5_most; omega) hR.2⟩ hcs, ?_⟩
  refine List.forall_mem_cons.mpr ⟨s_ge (pc := 28) X (off := 29) (by decide +kernel) (by decide), ?_⟩
  refine List.forall_mem_cons.mpr ⟨s_aload_n (pc := 31) X (i := 0) (by decide +kernel) rfl, ?_⟩
  refine List.forall_mem_cons.mpr ⟨s_getR (pc := 32) X (idx := 19) (by decide +kernel) inTX5 rfl (by decide) lk_RX5_19 rfl, ?_⟩
  refine List.forall_mem_cons.mpr ⟨s_iload_n (pc := 35) X (i := 3) (by decide +kernel) rfl, ?_⟩
  refine List.forall_mem_cons.mpr ⟨s_aload_n (pc := 36) X (i := 0) (by decide +kernel) rfl, ?_⟩
  refine List.forall_mem_cons.mpr ⟨s_iload_n (pc := 37) X (i := 3) (by decide +kernel) rfl, ?_⟩
  refine List.forall_mem_cons.mpr ⟨s_callV (pc := 38) X (idx := 98) (by decide +kernel) h_X5_broken0 rfl lk_RX5_98 ls_X5_broken0 lz_X5_broken0 li_RX5 lc_X5_broken0 hv_X5_broken0 ⟨Nat.le_trans hd_X5_broken0 hR.1, Nat.le_trans (by have := hd_X5_broken0; omega) hR.2⟩ hcs, ?_⟩
  refine List.forall_mem_cons.mpr ⟨s_iload_n (pc := 41) X (i := 1) (by decide +kernel) rfl, ?_⟩
  refine List.forall_mem_cons.mpr ⟨s_gt (pc := 42) X (off := 7) (by decide +kernel) (by decide), ?_⟩
  refine List.forall_mem_cons.mpr ⟨s_iconst (pc := 45) X (n := 1) (by decide +kernel) (by decide), ?_⟩
  refine List.forall_mem_cons.mpr ⟨s_goto (pc := 46) X (off := 4) (by decide +kernel) (by decide), ?_⟩
  refine List.forall_mem_cons.mpr ⟨s_iconst (pc := 49) X (n := 0) (by decide +kernel) (by decide), ?_⟩
  refine List.forall_mem_cons.mpr ⟨s_zast (pc := 50) X (by decide +kernel), ?_⟩
  refine List.forall_mem_cons.mpr ⟨s_iinc (pc := 51) X (n := 1) (by decide +kernel) (by decide) (by decide), ?_⟩
  refine List.forall_mem_cons.mpr ⟨s_goto (pc := 54) X (off := -31) (by decide +kernel) (by decide), ?_⟩
  refine List.forall_mem_cons.mpr ⟨s_aload_n (pc := 57) X (i := 0) (by decide +kernel) rfl, ?_⟩
  refine List.forall_mem_cons.mpr ⟨s_iconst (pc := 58) X (n := 0) (by decide +kernel) (by decide), ?_⟩
  refine List.forall_mem_cons.mpr ⟨s_putI (pc := 59) X (idx := 107) (by decide +kernel) inTX5 tyX5 tyX5_ok nmX5 rfl (by decide) lk_RX5_107 rfl rfl (by decide +kernel), ?_⟩
  refine List.forall_mem_cons.mpr ⟨s_iconst (pc := 62) X (n := 1) (by decide +kernel) (by decide), ?_⟩
  refine List.forall_mem_cons.mpr ⟨s_istore_n (pc := 63) X (i := 3) (by decide +kernel) rfl (by decide), ?_⟩
  refine List.forall_mem_cons.mpr ⟨s_iload_n (pc := 64) X (i := 3) (by decide +kernel) rfl, ?_⟩
  refine List.forall_mem_cons.mpr ⟨s_aload_n (pc := 65) X (i := 0) (by decide +kernel) rfl, ?_⟩
  refine List.forall_mem_cons.mpr ⟨s_callV (pc := 66) X (idx := 74) (by decide +kernel) h_X5_most rfl lk_RX5_74 ls_X5_most lz_X5_most li_RX5 lc_X5_most hv_X5_most ⟨Nat.le_trans hd_X5_most hR.1, Nat.le_trans (by have := hd_X5_most; omega) hR.2⟩ hcs, ?_⟩
  exact fun _ h => absurd h List.not_mem_nil
def T_X5_finds_1 (E : Ex) (env : Nat → Mf) : List (Nat × Stq) := [(69, o_ge 204 72),
  (72, o_al 73 0),
  (73, o_gR SH 76 5 4),
  (76, o_il 77 3),
  (77, o_za SH 78),
  (78, o_eq0 198 81),
  (81, o_al 82 0),
  (82, o_il 83 3),
  (83, o_callV SH env 86 92 1 5),
  (86, o_il 87 3),
  (87, o_ne 198 90),
  (90, o_il 91 3),
  (91, o_call env 94 102 1),
  (94, o_il 95 2),
  (95, o_le 101 98),
  (98, o_goto 198),
  (101, o_ic 102 (1)),
  (102, o_is 104 4),
  (104, o_ic 105 (1)),
  (105, o_is 107 5),
  (107, o_il 109 5),
  (109, o_al 110 0),
  (110, o_callV SH env 113 87 0 5),
  (113, o_ge 170 116),
  (116, o_il 118 4),
  (118, o_eq0 170 121),
  (121, o_al 122 0),
  (122, o_gR SH 125 5 4),
  (125, o_il 127 5),
  (127, o_za SH 128),
  (128, o_eq0 157 131),
  (131, o_il 133 5),
  (133, o_il 134 3),
  (134, o_eq 157 137),
  (137, o_il 139 5),
  (139, o_al 140 0),
  (140, o_il 141 3),
  (141, o_callV SH env 144 91 1 5),
  (144, o_eq 157 147),
  (147, o_al 148 0)]
set_option maxRecDepth 100000 in
set_option maxHeartbeats 4000000 in
theorem ts_X5_finds_1 {p : Program} {l : Launch} {e : Env} {R : Room} {s : State} {m : MethodId} {args : Array Value} {below : List Frame} {meth : Method} {c : Code} {cells slots : Nat} {Q : State → Prop} {D : va_G} {C : CI3} {A : Nat → Prop} {ad : Nat → Nat} {E : Ex} {env : Nat → Mf} {d : Nat} (X : Cx p R s m args c cX5_finds 6 RX5 D C A ad SH E) (hR : d ≤ R.frames ∧ 100 * d ≤ R.locals) (hcs : cells ≤ R.cells ∧ slots ≤ R.slots) {d_X5_isIn : Nat} (h_X5_isIn : CM l SH E yX5_isIn cX5_isIn 3 (some .boolean) d_X5_isIn (env 64)) (hd_X5_isIn : d_X5_isIn + 1 ≤ d) {d_X5_most : Nat} (h_X5_most : CM l SH E yX5_most cX5_most 1 (some .int) d_X5_most (env 87)) (hd_X5_most : d_X5_most + 1 ≤ d) {d_X5_broken0 : Nat} (h_X5_broken0 : CM l SH E yX5_broken0 cX5_broken0 5 (some .int) d_X5_broken0 (env 96)) (hd_X5_broken0 : d_X5_broken0 + 1 ≤ d) {d_X5_least0 : Nat} (h_X5_least0 : CM l SH E yX5_least0 cX5_least0 2 (some .int) d_X5_least0 (env 92)) (hd_X5_least0 : d_X5_least0 + 1 ≤ d) {d_X5_size : Nat} (h_X5_size : CM l SH E yX5_size cX5_size 3 (some .int) d_X5_size (env 102)) (hd_X5_size : d_X5_size + 1 ≤ d) {d_X5_turned : Nat} (h_X5_turned : CM l SH E yX5_turned cX5_turned 4 (some .int) d_X5_turned (env 91)) (hd_X5_turned : d_X5_turned + 1 ≤ d) {d_X5_isSaid : Nat} (h_X5_isSaid : CM l SH E yX5_isSaid cX5_isSaid 3 (some .boolean) d_X5_isSaid (env 100)) (hd_X5_isSaid : d_X5_isSaid + 1 ≤ d) : ∀ q ∈ T_X5_finds_1 E env, SS p l e R s m args below meth c cells slots Q D C A ad SH 6 cX5_finds (some .boolean) q.1 q.2 := by
  unfold T_X5_finds_1
  refine List.forall_mem_cons.mpr ⟨s_ge (pc := 69) X (off := 135) (by decide +kernel) (by decide), ?_⟩
  refine List.forall_mem_cons.mpr ⟨s_aload_n (pc := 72) X (i := 0) (by decide +kernel) rfl, ?_⟩
  refine List.forall_mem_cons.mpr ⟨s_getR (pc := 73) X (idx := 19) (by decide +kernel) inTX5 rfl (by decide) lk_RX5_19 rfl, ?_⟩
  refine List.forall_mem_cons.mpr ⟨s_iload_n (pc := 76) X (i := 3) (by decide +kernel) rfl, ?_⟩
  refine List.forall_mem_cons.mpr ⟨s_zald (pc := 77) X (by decide +kernel), ?_⟩
  refine List.forall_mem_cons.mpr ⟨s_eq0 (pc := 78) X (off := 120) (by decide +kernel) (by decide), ?_⟩
  refine List.forall_mem_cons.mpr ⟨s_aload_n (pc := 81) X (i := 0) (by decide +kernel) rfl, ?_⟩
  refine List.forall_mem_cons.mpr ⟨s_iload_n (pc := 82) X (i := 3) (by decide +kernel) rfl, ?_⟩
  refine List.forall_mem_cons.mpr ⟨s_callV (pc := 83) X (idx := 89) (by decide +kernel) h_X5_least0 rfl lk_RX5_89 ls_X5_least0 lz_X5_least0 li_RX5 lc_X5_least0 hv_X5_least0 ⟨Nat.le_trans hd_X5_least0 hR.1, Nat.le_trans (by have := hd_X5_least0; omega) hR.2⟩ hcs, ?_⟩
  refine List.forall_mem_cons.mpr ⟨s_iload_n (pc := 86) X (i := 3) (by decide +kernel) rfl, ?_⟩
  refine List.forall_mem_cons.mpr ⟨s_ne (pc := 87) X (off := 111) (by decide +kernel) (by decide), ?_⟩
  refine List.forall_mem_cons.mpr ⟨s_iload_n (pc := 90) X (i := 3) (by decide +kernel) rfl, ?_⟩
  refine List.forall_mem_cons.mpr ⟨s_callS (pc := 91) X (idx := 110) (by decide +kernel) h_X5_size lk_RX5_110 ls_X5_size li_RX5 lc_X5_size hy_X5_size ⟨Nat.le_trans hd_X5_size hR.1, Nat.le_trans (by have := hd_X5_size; omega) hR.2⟩ hcs, ?_⟩
  refine List.forall_mem_cons.mpr ⟨s_iload_n (pc := 94) X (i := 2) (by decide +kernel) rfl, ?_⟩
  refine List.forall_mem_cons.mpr ⟨s_le (pc := 95) X (off := 6) (by decide +kernel) (by decide), ?_⟩
  refine List.forall_mem_cons.mpr ⟨s_goto (pc := 98) X (off := 100) (by decide +kernel) (by decide), ?_⟩
  refine List.forall_mem_cons.mpr ⟨s_iconst (pc := 101) X (n := 1) (by decide +kernel) (by decide), ?_⟩
  refine List.forall_mem_cons.mpr ⟨s_istore (pc := 102) X (by decide +kernel) (by decide), ?_⟩
  refine List.forall_mem_cons.mpr ⟨s_iconst (pc := 104) X (n := 1) (by decide +kernel) (by decide), ?_⟩
  refine List.forall_mem_cons.mpr ⟨s_istore (pc := 105) X (by decide +kernel) (by decide), ?_⟩
  refine List.forall_mem_cons.mpr ⟨s_iload (pc := 107) X (by decide +kernel), ?_⟩
  refine List.forall_mem_cons.mpr ⟨s_aload_n (pc := 109) X (i := 0) (by decide +kernel) rfl, ?_⟩
  refine List.forall_mem_cons.mpr ⟨s_callV (pc := 110) X (idx := 74) (by decide +kernel) h_X5_most rfl lk_RX5_74 ls_X5_most lz_X5_most li_RX5 lc_X5_most hv_X5_most ⟨Nat.le_trans hd_X5_most hR.1, Nat.le_trans (by have := hd_X5_most; omega) hR.2⟩ hcs, ?_⟩
  refine List.forall_mem_cons.mpr ⟨s_ge (pc := 113) X (off := 57) (by decide +kernel) (by decide), ?_⟩
  refine List.forall_mem_cons.mpr ⟨s_iload (pc := 116) X (by decide +kernel), ?_⟩
  refine List.forall_mem_cons.mpr ⟨s_eq0 (pc := 118) X (off := 52) (by decide +kernel) (by decide), ?_⟩
  refine List.forall_mem_cons.mpr ⟨s_aload_n (pc := 121) X (i := 0) (by decide +kernel) rfl, ?_⟩
  refine List.forall_mem_cons.mpr ⟨s_getR (pc := 122) X (idx := 19) (by decide +kernel) inTX5 rfl (by decide) lk_RX5_19 rfl, ?_⟩
  refine List.forall_mem_cons.mpr ⟨s_iload (pc := 125) X (by decide +kernel), ?_⟩
  refine List.forall_mem_cons.mpr ⟨s_zald (pc := 127) X (by decide +kernel), ?_⟩
  refine List.forall_mem_cons.mpr ⟨s_eq0 (pc := 128) X (off := 29) (by decide +kernel) (by decide), ?_⟩
  refine List.forall_mem_cons.mpr ⟨s_iload (pc := 131) X (by decide +kernel), ?_⟩
  refine List.forall_mem_cons.mpr ⟨s_iload_n (pc := 133) X (i := 3) (by decide +kernel) rfl, ?_⟩
  refine List.forall_mem_cons.mpr ⟨s_eq (pc := 134) X (off := 23) (by decide +kernel) (by decide), ?_⟩
  refine List.forall_mem_cons.mpr ⟨s_iload (pc := 137) X (by decide +kernel), ?_⟩
  refine List.forall_mem_cons.mpr ⟨s_aload_n (pc := 139) X (i := 0) (by decide +kernel) rfl, ?_⟩
  refine List.forall_mem_cons.mpr ⟨s_iload_n (pc := 140) X (i := 3) (by decide +kernel) rfl, ?_⟩
  refine List.forall_mem_cons.mpr ⟨s_callV (pc := 141) X (idx := 83) (by decide +kernel) h_X5_turned rfl lk_RX5_83 ls_X5_turned lz_X5_turned li_RX5 lc_X5_turned hv_X5_turned ⟨Nat.le_trans hd_X5_turned hR.1, Nat.le_trans (by have := hd_X5_turned; omega) hR.2⟩ hcs, ?_⟩
  refine List.forall_mem_cons.mpr ⟨s_eq (pc := 144) X (off := 13) (by decide +kernel) (by decide), ?_⟩
  refine List.forall_mem_cons.mpr ⟨s_aload_n (pc := 147) X (i := 0) (by decide +kernel) rfl, ?_⟩
  exact fun _ h => absurd h List.not_mem_nil
def T_X5_finds_2 (E : Ex) (env : Nat → Mf) : List (Nat × Stq) := [(148, o_il 149 3),
  (149, o_il 151 5),
  (151, o_callV SH env 154 100 2 5),
  (154, o_ne0 161 157),
  (157, o_ic 158 (1)),
  (158, o_goto 162),
  (161, o_ic 162 (0)),
  (162, o_is 164 4),
  (164, o_inc 167 5 (1)),
  (167, o_goto 107),
  (170, o_il 172 4),
  (172, o_ne0 178 175),
  (175, o_goto 198),
  (178, o_al 179 0),
  (179, o_gR SH 182 5 5),
  (182, o_al 183 0),
  (183, o_gI SH 186 5 6),
  (186, o_il 187 3),
  (187, o_is_ SH 188),
  (188, o_al 189 0),
  (189, o_dup 190),
  (190, o_gI SH 193 5 6),
  (193, o_ic 194 (1)),
  (194, o_b2 195 (fun x y => x + y)),
  (195, o_pI SH 198 5 6),
  (198, o_inc 201 3 (1)),
  (201, o_goto 64),
  (204, o_ic 205 (1)),
  (205, o_retZ)]
set_option maxRecDepth 100000 in
set_option maxHeartbeats 4000000 in
theorem ts_X5_finds_2 {p : Program} {l : Launch} {e : Env} {R : Room} {s : State} {m : MethodId} {args : Array Value} {below : List Frame} {meth : Method} {c : Code} {cells slots : Nat} {Q : State → Prop} {D : va_G} {C : CI3} {A : Nat → Prop} {ad : Nat → Nat} {E : Ex} {env : Nat → Mf} {d : Nat} (X : Cx p R s m args c cX5_finds 6 RX5 D C A ad SH E) (hR : d ≤ R.frames ∧ 100 * d ≤ R.locals) (hcs : cells ≤ R.cells ∧ slots ≤ R.slots) {d_X5_isIn : Nat} (h_X5_isIn : CM l SH E yX5_isIn cX5_isIn 3 (some .boolean) d_X5_isIn (env 64)) (hd_X5_isIn : d_X5_isIn + 1 ≤ d) {d_X5_most : Nat} (h_X5_most : CM l SH E yX5_most cX5_most 1 (some .int) d_X5_most (env 87)) (hd_X5_most : d_X5_most + 1 ≤ d) {d_X5_broken0 : Nat} (h_X5_broken0 : CM l SH E yX5_broken0 cX5_broken0 5 (some .int) d_X5_broken0 (env 96)) (hd_X5_broken0 : d_X5_broken0 + 1 ≤ d) {d_X5_least0 : Nat} (h_X5_least0 : CM l SH E yX5_least0 cX5_least0 2 (some .int) d_X5_least0 (env 92)) (hd_X5_least0 : d_X5_least0 + 1 ≤ d) {d_X5_size : Nat} (h_X5_size : CM l SH E yX5_size cX5_size 3 (some .int) d_X5_size (env 102)) (hd_X5_size : d_X5_size + 1 ≤ d) {d_X5_turned : Nat} (h_X5_turned : CM l SH E yX5_turned cX5_turned 4 (some .int) d_X5_turned (env 91)) (hd_X5_turned : d_X5_turned + 1 ≤ d) {d_X5_isSaid : Nat} (h_X5_isSaid : CM l SH E yX5_isSaid cX5_isSaid 3 (some .boolean) d_X5_isSaid (env 100)) (hd_X5_isSaid : d_X5_isSaid + 1 ≤ d) : ∀ q ∈ T_X5_finds_2 E env, SS p l e R s m args below meth c cells slots Q D C A ad SH 6 cX5_finds (some .boolean) q.1 q.2 := by
  unfold T_X5_finds_2
  refine List.forall_mem_cons.mpr ⟨s_iload_n (pc := 148) X (i := 3) (by decide +kernel) rfl, ?_⟩
  refine List.forall_mem_cons.mpr ⟨s_iload (pc := 149) X (by decide +kernel), ?_⟩
  refine List.forall_mem_cons.mpr ⟨s_callV (pc := 151) X (idx := 104) (by decide +kernel) h_X5_isSaid rfl lk_RX5_104 ls_X5_isSaid lz_X5_isSaid li_RX5 lc_X5_isSaid hv_X5_isSaid ⟨Nat.le_trans hd_X5_isSaid hR.1, Nat.le_trans (by have := hd_X5_isSaid; omega) hR.2⟩ hcs, ?_⟩
  refine List.forall_mem_cons.mpr ⟨s_ne0 (pc := 154) X (off := 7) (by decide +kernel) (by decide), ?_⟩
  refine List.forall_mem_cons.mpr ⟨s_iconst (pc := 157) X (n := 1) (by decide +kernel) (by decide), ?_⟩
  refine List.forall_mem_cons.mpr ⟨s_goto (pc := 158) X (off := 4) (by decide +kernel) (by decide), ?_⟩
  refine List.forall_mem_cons.mpr ⟨s_iconst (pc := 161) X (n := 0) (by decide +kernel) (by decide), ?_⟩
  refine List.forall_mem_cons.mpr ⟨s_istore (pc := 162) X (by decide +kernel) (by decide), ?_⟩
  refine List.forall_mem_cons.mpr ⟨s_iinc (pc := 164) X (n := 1) (by decide +kernel) (by decide) (by decide), ?_⟩
  refine List.forall_mem_cons.mpr ⟨s_goto (pc := 167) X (off := -60) (by decide +kernel) (by decide), ?_⟩
  refine List.forall_mem_cons.mpr ⟨s_iload (pc := 170) X (by decide +kernel), ?_⟩
  refine List.forall_mem_cons.mpr ⟨s_ne0 (pc := 172) X (off := 6) (by decide +kernel) (by decide), ?_⟩
  refine List.forall_mem_cons.mpr ⟨s_goto (pc := 175) X (off := 23) (by decide +kernel) (by decide), ?_⟩
  refine List.forall_mem_cons.mpr ⟨s_aload_n (pc := 178) X (i := 0) (by decide +kernel) rfl, ?_⟩
  refine List.forall_mem_cons.mpr ⟨s_getR (pc := 179) X (idx := 23) (by decide +kernel) inTX5 rfl (by decide) lk_RX5_23 rfl, ?_⟩
  refine List.forall_mem_cons.mpr ⟨s_aload_n (pc := 182) X (i := 0) (by decide +kernel) rfl, ?_⟩
  refine List.forall_mem_cons.mpr ⟨s_getI (pc := 183) X (idx := 107) (by decide +kernel) inTX5 rfl (by decide) lk_RX5_107 rfl, ?_⟩
  refine List.forall_mem_cons.mpr ⟨s_iload_n (pc := 186) X (i := 3) (by decide +kernel) rfl, ?_⟩
  refine List.forall_mem_cons.mpr ⟨s_iast (pc := 187) X (by decide +kernel), ?_⟩
  refine List.forall_mem_cons.mpr ⟨s_aload_n (pc := 188) X (i := 0) (by decide +kernel) rfl, ?_⟩
  refine List.forall_mem_cons.mpr ⟨s_dup (pc := 189) X (by decide +kernel), ?_⟩
  refine List.forall_mem_cons.mpr ⟨s_getI (pc := 190) X (idx := 107) (by decide +kernel) inTX5 rfl (by decide) lk_RX5_107 rfl, ?_⟩
  refine List.forall_mem_cons.mpr ⟨s_iconst (pc := 193) X (n := 1) (by decide +kernel) (by decide), ?_⟩
  refine List.forall_mem_cons.mpr ⟨s_iadd (pc := 194) X (by decide +kernel), ?_⟩
  refine List.forall_mem_cons.mpr ⟨s_putI (pc := 195) X (idx := 107) (by decide +kernel) inTX5 tyX5 tyX5_ok nmX5 rfl (by decide) lk_RX5_107 rfl rfl (by decide +kernel), ?_⟩
  refine List.forall_mem_cons.mpr ⟨s_iinc (pc := 198) X (n := 1) (by decide +kernel) (by decide) (by decide), ?_⟩
  refine List.forall_mem_cons.mpr ⟨s_goto (pc := 201) X (off := -137) (by decide +kernel) (by decide), ?_⟩
  refine List.forall_mem_cons.mpr ⟨s_iconst (pc := 204) X (n := 1) (by decide +kernel) (by decide), ?_⟩
  refine List.forall_mem_cons.mpr ⟨s_retZ (pc := 205) (by decide +kernel), ?_⟩
  exact fun _ h => absurd h List.not_mem_nil
def T_X5_finds (E : Ex) (env : Nat → Mf) : List (Nat × Stq) := T_X5_finds_0 E env ++ (T_X5_finds_1 E env ++ (T_X5_finds_2 E env))
theorem ts_X5_finds {p : Program} {l : Launch} {e : Env} {R : Room} {s : State} {m : MethodId} {args : Array Value} {below : List Frame} {meth : Method} {c : Code} {cells slots : Nat} {Q : State → Prop} {D : va_G} {C : CI3} {A : Nat → Prop} {ad : Nat → Nat} {E : Ex} {env : Nat → Mf} {d : Nat} (X : Cx p R s m args c cX5_finds 6 RX5 D C A ad SH E) (hR : d ≤ R.frames ∧ 100 * d ≤ R.locals) (hcs : cells ≤ R.cells ∧ slots ≤ R.slots) {d_X5_isIn : Nat} (h_X5_isIn : CM l SH E yX5_isIn cX5_isIn 3 (some .boolean) d_X5_isIn (env 64)) (hd_X5_isIn : d_X5_isIn + 1 ≤ d) {d_X5_most : Nat} (h_X5_most : CM l SH E yX5_most cX5_most 1 (some .int) d_X5_most (env 87)) (hd_X5_most : d_X5_most + 1 ≤ d) {d_X5_broken0 : Nat} (h_X5_broken0 : CM l SH E yX5_broken0 cX5_broken0 5 (some .int) d_X5_broken0 (env 96)) (hd_X5_broken0 : d_X5_broken0 + 1 ≤ d) {d_X5_least0 : Nat} (h_X5_least0 : CM l SH E yX5_least0 cX5_least0 2 (some .int) d_X5_least0 (env 92)) (hd_X5_least0 : d_X5_least0 + 1 ≤ d) {d_X5_size : Nat} (h_X5_size : CM l SH E yX5_size cX5_size 3 (some .int) d_X5_size (env 102)) (hd_X5_size : d_X5_size + 1 ≤ d) {d_X5_turned : Nat} (h_X5_turned : CM l SH E yX5_turned cX5_turned 4 (some .int) d_X5_turned (env 91)) (hd_X5_turned : d_X5_turned + 1 ≤ d) {d_X5_isSaid : Nat} (h_X5_isSaid : CM l SH E yX5_isSaid cX5_isSaid 3 (some .boolean) d_X5_isSaid (env 100)) (hd_X5_isSaid : d_X5_isSaid + 1 ≤ d) : ∀ q ∈ T_X5_finds E env, SS p l e R s m args below meth c cells slots Q D C A ad SH 6 cX5_finds (some .boolean) q.1 q.2 := List.forall_mem_append.mpr ⟨ts_X5_finds_0 X hR hcs h_X5_isIn hd_X5_isIn h_X5_most hd_X5_most h_X5_broken0 hd_X5_broken0 h_X5_least0 hd_X5_least0 h_X5_size hd_X5_size h_X5_turned hd_X5_turned h_X5_isSaid hd_X5_isSaid, List.forall_mem_append.mpr ⟨ts_X5_finds_1 X hR hcs h_X5_isIn hd_X5_isIn h_X5_most hd_X5_most h_X5_broken0 hd_X5_broken0 h_X5_least0 hd_X5_least0 h_X5_size hd_X5_size h_X5_turned hd_X5_turned h_X5_isSaid hd_X5_isSaid, ts_X5_finds_2 X hR hcs h_X5_isIn hd_X5_isIn h_X5_most hd_X5_most h_X5_broken0 hd_X5_broken0 h_X5_least0 hd_X5_least0 h_X5_size hd_X5_size h_X5_turned hd_X5_turned h_X5_isSaid hd_X5_isSaid⟩⟩
def T_X5_laws (E : Ex) (env : Nat → Mf) : List (Nat × Stq) := [(0, o_al 1 0),
  (1, o_il 2 1),
  (2, o_il 3 2),
  (3, o_callV SH env 6 103 2 5),
  (6, o_eq0 16 9),
  (9, o_al 10 0),
  (10, o_gI SH 13 5 6),
  (13, o_goto 17),
  (16, o_ic 17 (-1)),
  (17, o_ret)]
set_option maxRecDepth 100000 in
set_option maxHeartbeats 4000000 in
theorem ts_X5_laws {p : Program} {l : Launch} {e : Env} {R : Room} {s : State} {m : MethodId} {args : Array Value} {below : List Frame} {meth : Method} {c : Code} {cells slots : Nat} {Q : State → Prop} {D : va_G} {C : CI3} {A : Nat → Prop} {ad : Nat → Nat} {E : Ex} {env : Nat → Mf} {d : Nat} (X : Cx p R s m args c cX5_laws 3 RX5 D C A ad SH E) (hR : d ≤ R.frames ∧ 100 * d ≤ R.locals) (hcs : cells ≤ R.cells ∧ slots ≤ R.slots) {d_X5_finds : Nat} (h_X5_finds : CM l SH E yX5_finds cX5_finds 6 (some .boolean) d_X5_finds (env 103)) (hd_X5_finds : d_X5_finds + 1 ≤ d) : ∀ q ∈ T_X5_laws E env, SS p l e R s m args below meth c cells slots Q D C A ad SH 3 cX5_laws (some .int) q.1 q.2 := by
  unfold T_X5_laws
  refine List.forall_mem_cons.mpr ⟨s_aload_n (pc := 0) X (i := 0) (by decide +kernel) rfl, ?_⟩
  refine List.forall_mem_cons.mpr ⟨s_iload_n (pc := 1) X (i := 1) (by decide +kernel) rfl, ?_⟩
  refine List.forall_mem_cons.mpr ⟨s_iload_n (pc := 2) X (i := 2) (by decide +kernel) rfl, ?_⟩
  refine List.forall_mem_cons.mpr ⟨s_callV (pc := 3) X (idx := 113) (by decide +kernel) h_X5_finds rfl lk_RX5_113 ls_X5_finds lz_X5_finds li_RX5 lc_X5_finds hv_X5_finds ⟨Nat.le_trans hd_X5_finds hR.1, Nat.le_trans (by have := hd_X5_finds; omega) hR.2⟩ hcs, ?_⟩
  refine List.forall_mem_cons.mpr ⟨s_eq0 (pc := 6) X (off := 10) (by decide +kernel) (by decide), ?_⟩
  refine List.forall_mem_cons.mpr ⟨s_aload_n (pc := 9) X (i := 0) (by decide +kernel) rfl, ?_⟩
  refine List.forall_mem_cons.mpr ⟨s_getI (pc := 10) X (idx := 107) (by decide +kernel) inTX5 rfl (by decide) lk_RX5_107 rfl, ?_⟩
  refine List.forall_mem_cons.mpr ⟨s_goto (pc := 13) X (off := 4) (by decide +kernel) (by decide), ?_⟩
  refine List.forall_mem_cons.mpr ⟨s_iconst (pc := 16) X (n := -1) (by decide +kernel) (by decide), ?_⟩
  refine List.forall_mem_cons.mpr ⟨s_ret (pc := 17) rfl (by decide +kernel), ?_⟩
  exact fun _ h => absurd h List.not_mem_nil
def T_X5_law (E : Ex) (env : Nat → Mf) : List (Nat × Stq) := [(0, o_al 1 0),
  (1, o_il 2 1),
  (2, o_il 3 2),
  (3, o_callV SH env 6 103 2 5),
  (6, o_eq0 32 9),
  (9, o_il 10 3),
  (10, o_ic 11 (0)),
  (11, o_al 12 0),
  (12, o_gI SH 15 5 6),
  (15, o_ic 16 (1)),
  (16, o_b2 17 (fun x y => x - y)),
  (17, o_call env 20 64 3),
  (20, o_eq0 32 23),
  (23, o_al 24 0),
  (24, o_gR SH 27 5 5),
  (27, o_il 28 3),
  (28, o_ia SH E 29),
  (29, o_goto 33),
  (32, o_ic 33 (-1)),
  (33, o_ret)]
set_option maxRecDepth 100000 in
set_option maxHeartbeats 4000000 in
theorem ts_X5_law {p : Program} {l : Launch} {e : Env} {R : Room} {s : State} {m : MethodId} {args : Array Value} {below : List Frame} {meth : Method} {c : Code} {cells slots : Nat} {Q : State → Prop} {D : va_G} {C : CI3} {A : Nat → Prop} {ad : Nat → Nat} {E : Ex} {env : Nat → Mf} {d : Nat} (X : Cx p R s m args c cX5_law 4 RX5 D C A ad SH E) (hR : d ≤ R.frames ∧ 100 * d ≤ R.locals) (hcs : cells ≤ R.cells ∧ slots ≤ R.slots) {d_X5_finds : Nat} (h_X5_finds : CM l SH E yX5_finds cX5_finds 6 (some .boolean) d_X5_finds (env 103)) (hd_X5_finds : d_X5_finds + 1 ≤ d) {d_X5_isIn : Nat} (h_X5_isIn : CM l SH E yX5_isIn cX5_isIn 3 (some .boolean) d_X5_isIn (env 64)) (hd_X5_isIn : d_X5_isIn + 1 ≤ d) : ∀ q ∈ T_X5_law E env, SS p l e R s m args below meth c cells slots Q D C A ad SH 4 cX5_law (some .int) q.1 q.2 := by
  unfold T_X5_law
  refine List.forall_mem_cons.mpr ⟨s_aload_n (pc := 0) X (i := 0) (by decide +kernel) rfl, ?_⟩
  refine List.forall_mem_cons.mpr ⟨s_iload_n (pc := 1) X (i := 1) (by decide +kernel) rfl, ?_⟩
  refine List.forall_mem_cons.mpr ⟨s_iload_n (pc := 2) X (i := 2) (by decide +kernel) rfl, ?_⟩
  refine List.forall_mem_cons.mpr ⟨s_callV (pc := 3) X (idx := 113) (by decide +kernel) h_X5_finds rfl lk_RX5_113 ls_X5_finds lz_X5_finds li_RX5 lc_X5_finds hv_X5_finds ⟨Nat.le_trans hd_X5_finds hR.1, Nat.le_trans (by have := hd_X5_finds; omega) hR.2⟩ hcs, ?_⟩
  refine List.forall_mem_cons.mpr ⟨s_eq0 (pc := 6) X (off := 26) (by decide +kernel) (by decide), ?_⟩
  refine List.forall_mem_cons.mpr ⟨s_iload_n (pc := 9) X (i := 3) (by decide +kernel) rfl, ?_⟩
  refine List.forall_mem_cons.mpr ⟨s_iconst (pc := 10) X (n := 0) (by decide +kernel) (by decide), ?_⟩
  refine List.forall_mem_cons.mpr ⟨s_aload_n (pc := 11) X (i := 0) (by decide +kernel) rfl, ?_⟩
  refine List.forall_mem_cons.mpr ⟨s_getI (pc := 12) X (idx := 107) (by decide +kernel) inTX5 rfl (by decide) lk_RX5_107 rfl, ?_⟩
  refine List.forall_mem_cons.mpr ⟨s_iconst (pc := 15) X (n := 1) (by decide +kernel) (by decide), ?_⟩
  refine List.forall_mem_cons.mpr ⟨s_isub (pc := 16) X (by decide +kernel), ?_⟩
  refine List.forall_mem_cons.mpr ⟨s_callS (pc := 17) X (idx := 29) (by decide +kernel) h_X5_isIn lk_RX5_29 ls_X5_isIn li_RX5 lc_X5_isIn hy_X5_isIn ⟨Nat.le_trans hd_X5_isIn hR.1, Nat.le_trans (by have := hd_X5_isIn; omega) hR.2⟩ hcs, ?_⟩
  refine List.forall_mem_cons.mpr ⟨s_eq0 (pc := 20) X (off := 12) (by decide +kernel) (by decide), ?_⟩
  refine List.forall_mem_cons.mpr ⟨s_aload_n (pc := 23) X (i := 0) (by decide +kernel) rfl, ?_⟩
  refine List.forall_mem_cons.mpr ⟨s_getR (pc := 24) X (idx := 23) (by decide +kernel) inTX5 rfl (by decide) lk_RX5_23 rfl, ?_⟩
  refine List.forall_mem_cons.mpr ⟨s_iload_n (pc := 27) X (i := 3) (by decide +kernel) rfl, ?_⟩
  refine List.forall_mem_cons.mpr ⟨s_iald (pc := 28) X (by decide +kernel), ?_⟩
  refine List.forall_mem_cons.mpr ⟨s_goto (pc := 29) X (off := 4) (by decide +kernel) (by decide), ?_⟩
  refine List.forall_mem_cons.mpr ⟨s_iconst (pc := 32) X (n := -1) (by decide +kernel) (by decide), ?_⟩
  refine List.forall_mem_cons.mpr ⟨s_ret (pc := 33) rfl (by decide +kernel), ?_⟩
  exact fun _ h => absurd h List.not_mem_nil
def T_X5_sort_0 (E : Ex) (env : Nat → Mf) : List (Nat × Stq) := [(0, o_al 1 0),
  (1, o_il 2 1),
  (2, o_callV SH env 5 90 1 5),
  (5, o_ne0 10 8),
  (8, o_ic 9 (-1)),
  (9, o_ret),
  (10, o_ic 11 (0)),
  (11, o_is 12 2),
  (12, o_ic 13 (0)),
  (13, o_is 14 3),
  (14, o_ic 15 (0)),
  (15, o_is 17 4),
  (17, o_ic 18 (0)),
  (18, o_is 20 5),
  (20, o_il 22 5),
  (22, o_ic 23 (4)),
  (23, o_ge 84 26),
  (26, o_il 27 1),
  (27, o_il 29 5),
  (29, o_call env 32 83 2),
  (32, o_is 34 6),
  (34, o_il 35 2),
  (35, o_il 37 6),
  (37, o_ic 38 (1)),
  (38, o_ne 45 41),
  (41, o_ic 42 (1)),
  (42, o_goto 46),
  (45, o_ic 46 (0)),
  (46, o_b2 47 (fun x y => x + y)),
  (47, o_is 48 2),
  (48, o_il 49 3),
  (49, o_il 51 6),
  (51, o_ic 52 (2)),
  (52, o_ne 59 55),
  (55, o_ic 56 (1)),
  (56, o_goto 60),
  (59, o_ic 60 (0)),
  (60, o_b2 61 (fun x y => x + y)),
  (61, o_is 62 3),
  (62, o_il 64 4)]
set_option maxRecDepth 100000 in
set_option maxHeartbeats 4000000 in
theorem ts_X5_sort_0 {p : Program} {l : Launch} {e : Env} {R : Room} {s : State} {m : MethodId} {args : Array Value} {below : List Frame} {meth : Method} {c : Code} {cells slots : Nat} {Q : State → Prop} {D : va_G} {C : CI3} {A : Nat → Prop} {ad : Nat → Nat} {E : Ex} {env : Nat → Mf} {d : Nat} (X : Cx p R s m args c cX5_sort 7 RX5 D C A ad SH E) (hR : d ≤ R.frames ∧ 100 * d ≤ R.locals) (hcs : cells ≤ R.cells ∧ slots ≤ R.slots) {d_X5_isLaw : Nat} (h_X5_isLaw : CM l SH E yX5_isLaw cX5_isLaw 2 (some .boolean) d_X5_isLaw (env 90)) (hd_X5_isLaw : d_X5_isLaw + 1 ≤ d) {d_X5_digit : Nat} (h_X5_digit : CM l SH E yX5_digit cX5_digit 2 (some .int) d_X5_digit (env 83)) (hd_X5_digit : d_X5_digit + 1 ≤ d) : ∀ q ∈ T_X5_sort_0 E env, SS p l e R s m args below meth c cells slots Q D C A ad SH 7 cX5_sort (some .int) q.1 q.2 := by
  unfold T_X5_sort_0
  refine List.forall_mem_cons.mpr ⟨s_aload_n (pc := 0) X (i := 0) (by decide +kernel) rfl, ?_⟩
  refine List.forall_mem_cons.mpr ⟨s_iload_n (pc := 1) X (i := 1) (by decide +kernel) rfl, ?_⟩
  refine List.forall_mem_cons.mpr ⟨s_callV (pc := 2) X (idx := 86) (by decide +kernel) h_X5_isLaw rfl lk_RX5_86 ls_X5_isLaw lz_X5_isLaw li_RX5 lc_X5_isLaw hv_X5_isLaw ⟨Nat.le_trans hd_X5_isLaw hR.1, Nat.le_trans (by have := hd_X5_isLaw; omega) hR.2⟩ hcs, ?_⟩
  refine List.forall_mem_cons.mpr ⟨s_ne0 (pc := 5) X (off := 5) (by decide +kernel) (by decide), ?_⟩
  refine List.forall_mem_cons.mpr ⟨s_iconst (pc := 8) X (n := -1) (by decide +kernel) (by decide), ?_⟩
  refine List.forall_mem_cons.mpr ⟨s_ret (pc := 9) rfl (by decide +kernel), ?_⟩
  refine List.forall_mem_cons.mpr ⟨s_iconst (pc := 10) X (n := 0) (by decide +kernel) (by decide), ?_⟩
  refine List.forall_mem_cons.mpr ⟨s_istore_n (pc := 11) X (i := 2) (by decide +kernel) rfl (by decide), ?_⟩
  refine List.forall_mem_cons.mpr ⟨s_iconst (pc := 12) X (n := 0) (by decide +kernel) (by decide), ?_⟩
  refine List.forall_mem_cons.mpr ⟨s_istore_n (pc := 13) X (i := 3) (by decide +kernel) rfl (by decide), ?_⟩
  refine List.forall_mem_cons.mpr ⟨s_iconst (pc := 14) X (n := 0) (by decide +kernel) (by decide), ?_⟩
  refine List.forall_mem_cons.mpr ⟨s_istore (pc := 15) X (by decide +kernel) (by decide), ?_⟩
  refine List.forall_mem_cons.mpr ⟨s_iconst (pc := 17) X (n := 0) (by decide +kernel) (by decide), ?_⟩
  refine List.forall_mem_cons.mpr ⟨s_istore (pc := 18) X (by decide +kernel) (by decide), ?_⟩
  refine List.forall_mem_cons.mpr ⟨s_iload (pc := 20) X (by decide +kernel), ?_⟩
  refine List.forall_mem_cons.mpr ⟨s_iconst (pc := 22) X (n := 4) (by decide +kernel) (by decide), ?_⟩
  refine List.forall_mem_cons.mpr ⟨s_ge (pc := 23) X (off := 61) (by decide +kernel) (by decide), ?_⟩
  refine List.forall_mem_cons.mpr ⟨s_iload_n (pc := 26) X (i := 1) (by decide +kernel) rfl, ?_⟩
  refine List.forall_mem_cons.mpr ⟨s_iload (pc := 27) X (by decide +kernel), ?_⟩
  refine List.forall_mem_cons.mpr ⟨s_callS (pc := 29) X (idx := 77) (by decide +kernel) h_X5_digit lk_RX5_77 ls_X5_digit li_RX5 lc_X5_digit hy_X5_digit ⟨Nat.le_trans hd_X5_digit hR.1, Nat.le_trans (by have := hd_X5_digit; omega) hR.2⟩ hcs, ?_⟩
  refine List.forall_mem_cons.mpr ⟨s_istore (pc := 32) X (by decide +kernel) (by decide), ?_⟩
  refine List.forall_mem_cons.mpr ⟨s_iload_n (pc := 34) X (i := 2) (by decide +kernel) rfl, ?_⟩
  refine List.forall_mem_cons.mpr ⟨s_iload (pc := 35) X (by decide +kernel), ?_⟩
  refine List.forall_mem_cons.mpr ⟨s_iconst (pc := 37) X (n := 1) (by decide +kernel) (by decide), ?_⟩
  refine List.forall_mem_cons.mpr ⟨s_ne (pc := 38) X (off := 7) (by decide +kernel) (by decide), ?_⟩
  refine List.forall_mem_cons.mpr ⟨s_iconst (pc := 41) X (n := 1) (by decide +kernel) (by decide), ?_⟩
  refine List.forall_mem_cons.mpr ⟨s_goto (pc := 42) X (off := 4) (by decide +kernel) (by decide), ?_⟩
  refine List.forall_mem_cons.mpr ⟨s_iconst (pc := 45) X (n := 0) (by decide +kernel) (by decide), ?_⟩
  refine List.forall_mem_cons.mpr ⟨s_iadd (pc := 46) X (by decide +kernel), ?_⟩
  refine List.forall_mem_cons.mpr ⟨s_istore_n (pc := 47) X (i := 2) (by decide +kernel) rfl (by decide), ?_⟩
  refine List.forall_mem_cons.mpr ⟨s_iload_n (pc := 48) X (i := 3) (by decide +kernel) rfl, ?_⟩
  refine List.forall_mem_cons.mpr ⟨s_iload (pc := 49) X (by decide +kernel), ?_⟩
  refine List.forall_mem_cons.mpr ⟨s_iconst (pc := 51) X (n := 2) (by decide +kernel) (by decide), ?_⟩
  refine List.forall_mem_cons.mpr ⟨s_ne (pc := 52) X (off := 7) (by decide +kernel) (by decide), ?_⟩
  refine List.forall_mem_cons.mpr ⟨s_iconst (pc := 55) X (n := 1) (by decide +kernel) (by decide), ?_⟩
  refine List.forall_mem_cons.mpr ⟨s_goto (pc := 56) X (off := 4) (by decide +kernel) (by decide), ?_⟩
  refine List.forall_mem_cons.mpr ⟨s_iconst (pc := 59) X (n := 0) (by decide +kernel) (by decide), ?_⟩
  refine List.forall_mem_cons.mpr ⟨s_iadd (pc := 60) X (by decide +kernel), ?_⟩
  refine List.forall_mem_cons.mpr ⟨s_istore_n (pc := 61) X (i := 3) (by decide +kernel) rfl (by decide), ?_⟩
  refine List.forall_mem_cons.mpr ⟨s_iload (pc := 62) X (by decide +kernel), ?_⟩
  exact fun _ h => absurd h List.not_mem_nil
def T_X5_sort_1 (E : Ex) (env : Nat → Mf) : List (Nat × Stq) := [(64, o_il 66 6),
  (66, o_ic 67 (2)),
  (67, o_le 74 70),
  (70, o_ic 71 (1)),
  (71, o_goto 75),
  (74, o_ic 75 (0)),
  (75, o_b2 76 (fun x y => x + y)),
  (76, o_is 78 4),
  (78, o_inc 81 5 (1)),
  (81, o_goto 20),
  (84, o_il 85 3),
  (85, o_ne0 95 88),
  (88, o_il 90 4),
  (90, o_ne0 95 93),
  (93, o_ic 94 (0)),
  (94, o_ret),
  (95, o_il 96 3),
  (96, o_ic 97 (1)),
  (97, o_ne 107 100),
  (100, o_il 102 4),
  (102, o_ne0 107 105),
  (105, o_ic 106 (1)),
  (106, o_ret),
  (107, o_il 109 4),
  (109, o_ic 110 (1)),
  (110, o_le 117 113),
  (113, o_ic 114 (2)),
  (114, o_goto 118),
  (117, o_ic 118 (3)),
  (118, o_ret)]
set_option maxRecDepth 100000 in
set_option maxHeartbeats 4000000 in
theorem ts_X5_sort_1 {p : Program} {l : Launch} {e : Env} {R : Room} {s : State} {m : MethodId} {args : Array Value} {below : List Frame} {meth : Method} {c : Code} {cells slots : Nat} {Q : State → Prop} {D : va_G} {C : CI3} {A : Nat → Prop} {ad : Nat → Nat} {E : Ex} {env : Nat → Mf} {d : Nat} (X : Cx p R s m args c cX5_sort 7 RX5 D C A ad SH E) (hR : d ≤ R.frames ∧ 100 * d ≤ R.locals) (hcs : cells ≤ R.cells ∧ slots ≤ R.slots) {d_X5_isLaw : Nat} (h_X5_isLaw : CM l SH E yX5_isLaw cX5_isLaw 2 (some .boolean) d_X5_isLaw (env 90)) (hd_X5_isLaw : d_X5_isLaw + 1 ≤ d) {d_X5_digit : Nat} (h_X5_digit : CM l SH E yX5_digit cX5_digit 2 (some .int) d_X5_digit (env 83)) (hd_X5_digit : d_X5_digit + 1 ≤ d) : ∀ q ∈ T_X5_sort_1 E env, SS p l e R s m args below meth c cells slots Q D C A ad SH 7 cX5_sort (some .int) q.1 q.2 := by
  unfold T_X5_sort_1
  refine List.forall_mem_cons.mpr ⟨s_iload (pc := 64) X (by decide +kernel), ?_⟩
  refine List.forall_mem_cons.mpr ⟨s_iconst (pc := 66) X (n := 2) (by decide +kernel) (by decide), ?_⟩
  refine List.forall_mem_cons.mpr ⟨s_le (pc := 67) X (off := 7) (by decide +kernel) (by decide), ?_⟩
  refine List.forall_mem_cons.mpr ⟨s_iconst (pc := 70) X (n := 1) (by decide +kernel) (by decide), ?_⟩
  refine List.forall_mem_cons.mpr ⟨s_goto (pc := 71) X (off := 4) (by decide +kernel) (by decide), ?_⟩
  refine List.forall_mem_cons.mpr ⟨s_iconst (pc := 74) X (n := 0) (by decide +kernel) (by decide), ?_⟩
  refine List.forall_mem_cons.mpr ⟨s_iadd (pc := 75) X (by decide +kernel), ?_⟩
  refine List.forall_mem_cons.mpr ⟨s_istore (pc := 76) X (by decide +kernel) (by decide), ?_⟩
  refine List.forall_mem_cons.mpr ⟨s_iinc (pc := 78) X (n := 1) (by decide +kernel) (by decide) (by decide), ?_⟩
  refine List.forall_mem_cons.mpr ⟨s_goto (pc := 81) X (off := -61) (by decide +kernel) (by decide), ?_⟩
  refine List.forall_mem_cons.mpr ⟨s_iload_n (pc := 84) X (i := 3) (by decide +kernel) rfl, ?_⟩
  refine List.forall_mem_cons.mpr ⟨s_ne0 (pc := 85) X (off := 10) (by decide +kernel) (by decide), ?_⟩
  refine List.forall_mem_cons.mpr ⟨s_iload (pc := 88) X (by decide +kernel), ?_⟩
  refine List.forall_mem_cons.mpr ⟨s_ne0 (pc := 90) X (off := 5) (by decide +kernel) (by decide), ?_⟩
  refine List.forall_mem_cons.mpr ⟨s_iconst (pc := 93) X (n := 0) (by decide +kernel) (by decide), ?_⟩
  refine List.forall_mem_cons.mpr ⟨s_ret (pc := 94) rfl (by decide +kernel), ?_⟩
  refine List.forall_mem_cons.mpr ⟨s_iload_n (pc := 95) X (i := 3) (by decide +kernel) rfl, ?_⟩
  refine List.forall_mem_cons.mpr ⟨s_iconst (pc := 96) X (n := 1) (by decide +kernel) (by decide), ?_⟩
  refine List.forall_mem_cons.mpr ⟨s_ne (pc := 97) X (off := 10) (by decide +kernel) (by decide), ?_⟩
  refine List.forall_mem_cons.mpr ⟨s_iload (pc := 100) X (by decide +kernel), ?_⟩
  refine List.forall_mem_cons.mpr ⟨s_ne0 (pc := 102) X (off := 5) (by decide +kernel) (by decide), ?_⟩
  refine List.forall_mem_cons.mpr ⟨s_iconst (pc := 105) X (n := 1) (by decide +kernel) (by decide), ?_⟩
  refine List.forall_mem_cons.mpr ⟨s_ret (pc := 106) rfl (by decide +kernel), ?_⟩
  refine List.forall_mem_cons.mpr ⟨s_iload (pc := 107) X (by decide +kernel), ?_⟩
  refine List.forall_mem_cons.mpr ⟨s_iconst (pc := 109) X (n := 1) (by decide +kernel) (by decide), ?_⟩
  refine List.forall_mem_cons.mpr ⟨s_le (pc := 110) X (off := 7) (by decide +kernel) (by decide), ?_⟩
  refine List.forall_mem_cons.mpr ⟨s_iconst (pc := 113) X (n := 2) (by decide +kernel) (by decide), ?_⟩
  refine List.forall_mem_cons.mpr ⟨s_goto (pc := 114) X (off := 4) (by decide +kernel) (by decide), ?_⟩
  refine List.forall_mem_cons.mpr ⟨s_iconst (pc := 117) X (n := 3) (by decide +kernel) (by decide), ?_⟩
  refine List.forall_mem_cons.mpr ⟨s_ret (pc := 118) rfl (by decide +kernel), ?_⟩
  exact fun _ h => absurd h List.not_mem_nil
def T_X5_sort (E : Ex) (env : Nat → Mf) : List (Nat × Stq) := T_X5_sort_0 E env ++ (T_X5_sort_1 E env)
theorem ts_X5_sort {p : Program} {l : Launch} {e : Env} {R : Room} {s : State} {m : MethodId} {args : Array Value} {below : List Frame} {meth : Method} {c : Code} {cells slots : Nat} {Q : State → Prop} {D : va_G} {C : CI3} {A : Nat → Prop} {ad : Nat → Nat} {E : Ex} {env : Nat → Mf} {d : Nat} (X : Cx p R s m args c cX5_sort 7 RX5 D C A ad SH E) (hR : d ≤ R.frames ∧ 100 * d ≤ R.locals) (hcs : cells ≤ R.cells ∧ slots ≤ R.slots) {d_X5_isLaw : Nat} (h_X5_isLaw : CM l SH E yX5_isLaw cX5_isLaw 2 (some .boolean) d_X5_isLaw (env 90)) (hd_X5_isLaw : d_X5_isLaw + 1 ≤ d) {d_X5_digit : Nat} (h_X5_digit : CM l SH E yX5_digit cX5_digit 2 (some .int) d_X5_digit (env 83)) (hd_X5_digit : d_X5_digit + 1 ≤ d) : ∀ q ∈ T_X5_sort E env, SS p l e R s m args below meth c cells slots Q D C A ad SH 7 cX5_sort (some .int) q.1 q.2 := List.forall_mem_append.mpr ⟨ts_X5_sort_0 X hR hcs h_X5_isLaw hd_X5_isLaw h_X5_digit hd_X5_digit, ts_X5_sort_1 X hR hcs h_X5_isLaw hd_X5_isLaw h_X5_digit hd_X5_digit⟩
def T_X5_isSet (E : Ex) (env : Nat → Mf) : List (Nat × Stq) := [(0, o_il 1 1),
  (1, o_ic 2 (0)),
  (2, o_ic 3 (1)),
  (3, o_al 4 0),
  (4, o_callV SH env 7 65 0 5),
  (7, o_b2 8 (fun x y => x <<< (y &&& 31))),
  (8, o_ic 9 (1)),
  (9, o_b2 10 (fun x y => x - y)),
  (10, o_call env 13 64 3),
  (13, o_retZ)]
set_option maxRecDepth 100000 in
set_option maxHeartbeats 4000000 in
theorem ts_X5_isSet {p : Program} {l : Launch} {e : Env} {R : Room} {s : State} {m : MethodId} {args : Array Value} {below : List Frame} {meth : Method} {c : Code} {cells slots : Nat} {Q : State → Prop} {D : va_G} {C : CI3} {A : Nat → Prop} {ad : Nat → Nat} {E : Ex} {env : Nat → Mf} {d : Nat} (X : Cx p R s m args c cX5_isSet 2 RX5 D C A ad SH E) (hR : d ≤ R.frames ∧ 100 * d ≤ R.locals) (hcs : cells ≤ R.cells ∧ slots ≤ R.slots) {d_X5_columns : Nat} (h_X5_columns : CM l SH E yX5_columns cX5_columns 1 (some .int) d_X5_columns (env 65)) (hd_X5_columns : d_X5_columns + 1 ≤ d) {d_X5_isIn : Nat} (h_X5_isIn : CM l SH E yX5_isIn cX5_isIn 3 (some .boolean) d_X5_isIn (env 64)) (hd_X5_isIn : d_X5_isIn + 1 ≤ d) : ∀ q ∈ T_X5_isSet E env, SS p l e R s m args below meth c cells slots Q D C A ad SH 2 cX5_isSet (some .boolean) q.1 q.2 := by
  unfold T_X5_isSet
  refine List.forall_mem_cons.mpr ⟨s_iload_n (pc := 0) X (i := 1) (by decide +kernel) rfl, ?_⟩
  refine List.forall_mem_cons.mpr ⟨s_iconst (pc := 1) X (n := 0) (by decide +kernel) (by decide), ?_⟩
  refine List.forall_mem_cons.mpr ⟨s_iconst (pc := 2) X (n := 1) (by decide +kernel) (by decide), ?_⟩
  refine List.forall_mem_cons.mpr ⟨s_aload_n (pc := 3) X (i := 0) (by decide +kernel) rfl, ?_⟩
  refine List.forall_mem_cons.mpr ⟨s_callV (pc := 4) X (idx := 37) (by decide +kernel) h_X5_columns rfl lk_RX5_37 ls_X5_columns lz_X5_columns li_RX5 lc_X5_columns hv_X5_columns ⟨Nat.le_trans hd_X5_columns hR.1, Nat.le_trans (by have := hd_X5_columns; omega) hR.2⟩ hcs, ?_⟩
  refine List.forall_mem_cons.mpr ⟨s_ishl (pc := 7) X (by decide +kernel), ?_⟩
  refine List.forall_mem_cons.mpr ⟨s_iconst (pc := 8) X (n := 1) (by decide +kernel) (by decide), ?_⟩
  refine List.forall_mem_cons.mpr ⟨s_isub (pc := 9) X (by decide +kernel), ?_⟩
  refine List.forall_mem_cons.mpr ⟨s_callS (pc := 10) X (idx := 29) (by decide +kernel) h_X5_isIn lk_RX5_29 ls_X5_isIn li_RX5 lc_X5_isIn hy_X5_isIn ⟨Nat.le_trans hd_X5_isIn hR.1, Nat.le_trans (by have := hd_X5_isIn; omega) hR.2⟩ hcs, ?_⟩
  refine List.forall_mem_cons.mpr ⟨s_retZ (pc := 13) (by decide +kernel), ?_⟩
  exact fun _ h => absurd h List.not_mem_nil
def T_X5_alikeIn (E : Ex) (env : Nat → Mf) : List (Nat × Stq) := [(0, o_ic 1 (0)),
  (1, o_is 3 4),
  (3, o_il 5 4),
  (5, o_al 6 0),
  (6, o_callV SH env 9 65 0 5),
  (9, o_ge 42 12),
  (12, o_il 13 3),
  (13, o_il 15 4),
  (15, o_b2 16 (fun x y => x >>> (y &&& 31))),
  (16, o_ic 17 (1)),
  (17, o_b2 18 (fun x y => x &&& y)),
  (18, o_ic 19 (1)),
  (19, o_ne 36 22),
  (22, o_al 23 0),
  (23, o_il 24 1),
  (24, o_il 25 2),
  (25, o_il 27 4),
  (27, o_callV SH env 30 81 3 5),
  (30, o_ic 31 (1)),
  (31, o_eq 36 34),
  (34, o_ic 35 (0)),
  (35, o_retZ),
  (36, o_inc 39 4 (1)),
  (39, o_goto 3),
  (42, o_ic 43 (1)),
  (43, o_retZ)]
set_option maxRecDepth 100000 in
set_option maxHeartbeats 4000000 in
theorem ts_X5_alikeIn {p : Program} {l : Launch} {e : Env} {R : Room} {s : State} {m : MethodId} {args : Array Value} {below : List Frame} {meth : Method} {c : Code} {cells slots : Nat} {Q : State → Prop} {D : va_G} {C : CI3} {A : Nat → Prop} {ad : Nat → Nat} {E : Ex} {env : Nat → Mf} {d : Nat} (X : Cx p R s m args c cX5_alikeIn 5 RX5 D C A ad SH E) (hR : d ≤ R.frames ∧ 100 * d ≤ R.locals) (hcs : cells ≤ R.cells ∧ slots ≤ R.slots) {d_X5_columns : Nat} (h_X5_columns : CM l SH E yX5_columns cX5_columns 1 (some .int) d_X5_columns (env 65)) (hd_X5_columns : d_X5_columns + 1 ≤ d) {d_X5_step : Nat} (h_X5_step : CM l SH E yX5_step cX5_step 6 (some .int) d_X5_step (env 81)) (hd_X5_step : d_X5_step + 1 ≤ d) : ∀ q ∈ T_X5_alikeIn E env, SS p l e R s m args below meth c cells slots Q D C A ad SH 5 cX5_alikeIn (some .boolean) q.1 q.2 := by
  unfold T_X5_alikeIn
  refine List.forall_mem_cons.mpr ⟨s_iconst (pc := 0) X (n := 0) (by decide +kernel) (by decide), ?_⟩
  refine List.forall_mem_cons.mpr ⟨s_istore (pc := 1) X (by decide +kernel) (by decide), ?_⟩
  refine List.forall_mem_cons.mpr ⟨s_iload (pc := 3) X (by decide +kernel), ?_⟩
  refine List.forall_mem_cons.mpr ⟨s_aload_n (pc := 5) X (i := 0) (by decide +kernel) rfl, ?_⟩
  refine List.forall_mem_cons.mpr ⟨s_callV (pc := 6) X (idx := 37) (by decide +kernel) h_X5_columns rfl lk_RX5_37 ls_X5_columns lz_X5_columns li_RX5 lc_X5_columns hv_X5_columns ⟨Nat.le_trans hd_X5_columns hR.1, Nat.le_trans (by have := hd_X5_columns; omega) hR.2⟩ hcs, ?_⟩
  refine List.forall_mem_cons.mpr ⟨s_ge (pc := 9) X (off := 33) (by decide +kernel) (by decide), ?_⟩
  refine List.forall_mem_cons.mpr ⟨s_iload_n (pc := 12) X (i := 3) (by decide +kernel) rfl, ?_⟩
  refine List.forall_mem_cons.mpr ⟨s_iload (pc := 13) X (by decide +kernel), ?_⟩
  refine List.forall_mem_cons.mpr ⟨s_ishr (pc := 15) X (by decide +kernel), ?_⟩
  refine List.forall_mem_cons.mpr ⟨s_iconst (pc := 16) X (n := 1) (by decide +kernel) (by decide), ?_⟩
  refine List.forall_mem_cons.mpr ⟨s_iand (pc := 17) X (by decide +kernel), ?_⟩
  refine List.forall_mem_cons.mpr ⟨s_iconst (pc := 18) X (n := 1) (by decide +kernel) (by decide), ?_⟩
  refine List.forall_mem_cons.mpr ⟨s_ne (pc := 19) X (off := 17) (by decide +kernel) (by decide), ?_⟩
  refine List.forall_mem_cons.mpr ⟨s_aload_n (pc := 22) X (i := 0) (by decide +kernel) rfl, ?_⟩
  refine List.forall_mem_cons.mpr ⟨s_iload_n (pc := 23) X (i := 1) (by decide +kernel) rfl, ?_⟩
  refine List.forall_mem_cons.mpr ⟨s_iload_n (pc := 24) X (i := 2) (by decide +kernel) rfl, ?_⟩
  refine List.forall_mem_cons.mpr ⟨s_iload (pc := 25) X (by decide +kernel), ?_⟩
  refine List.forall_mem_cons.mpr ⟨s_callV (pc := 27) X (idx := 67) (by decide +kernel) h_X5_step rfl lk_RX5_67 ls_X5_step lz_X5_step li_RX5 lc_X5_step hv_X5_step ⟨Nat.le_trans hd_X5_step hR.1, Nat.le_trans (by have := hd_X5_step; omega) hR.2⟩ hcs, ?_⟩
  refine List.forall_mem_cons.mpr ⟨s_iconst (pc := 30) X (n := 1) (by decide +kernel) (by decide), ?_⟩
  refine List.forall_mem_cons.mpr ⟨s_eq (pc := 31) X (off := 5) (by decide +kernel) (by decide), ?_⟩
  refine List.forall_mem_cons.mpr ⟨s_iconst (pc := 34) X (n := 0) (by decide +kernel) (by decide), ?_⟩
  refine List.forall_mem_cons.mpr ⟨s_retZ (pc := 35) (by decide +kernel), ?_⟩
  refine List.forall_mem_cons.mpr ⟨s_iinc (pc := 36) X (n := 1) (by decide +kernel) (by decide) (by decide), ?_⟩
  refine List.forall_mem_cons.mpr ⟨s_goto (pc := 39) X (off := -36) (by decide +kernel) (by decide), ?_⟩
  refine List.forall_mem_cons.mpr ⟨s_iconst (pc := 42) X (n := 1) (by decide +kernel) (by decide), ?_⟩
  refine List.forall_mem_cons.mpr ⟨s_retZ (pc := 43) (by decide +kernel), ?_⟩
  exact fun _ h => absurd h List.not_mem_nil
def T_X5_settles_0 (E : Ex) (env : Nat → Mf) : List (Nat × Stq) := [(0, o_al 1 0),
  (1, o_il 2 1),
  (2, o_callV SH env 5 107 1 5),
  (5, o_ne0 10 8),
  (8, o_ic 9 (-1)),
  (9, o_ret),
  (10, o_ic 11 (1)),
  (11, o_al 12 0),
  (12, o_callV SH env 15 65 0 5),
  (15, o_b2 16 (fun x y => x <<< (y &&& 31))),
  (16, o_ic 17 (1)),
  (17, o_b2 18 (fun x y => x - y)),
  (18, o_is 19 2),
  (19, o_ic 20 (0)),
  (20, o_is 21 3),
  (21, o_il 22 3),
  (22, o_ic 24 (16)),
  (24, o_ge 126 27),
  (27, o_ic 28 (0)),
  (28, o_is 30 4),
  (30, o_il 32 4),
  (32, o_ic 34 (16)),
  (34, o_ge 120 37),
  (37, o_il 38 3),
  (38, o_il 40 4),
  (40, o_eq 114 43),
  (43, o_al 44 0),
  (44, o_il 45 3),
  (45, o_callV SH env 48 68 1 5),
  (48, o_eq0 114 51),
  (51, o_al 52 0),
  (52, o_il 54 4),
  (54, o_callV SH env 57 68 1 5),
  (57, o_eq0 114 60),
  (60, o_al 61 0),
  (61, o_il 62 3),
  (62, o_il 64 4),
  (64, o_il 65 1),
  (65, o_callV SH env 68 108 3 5),
  (68, o_ne0 74 71)]
set_option maxRecDepth 100000 in
set_option maxHeartbeats 4000000 in
theorem ts_X5_settles_0 {p : Program} {l : Launch} {e : Env} {R : Room} {s : State} {m : MethodId} {args : Array Value} {below : List Frame} {meth : Method} {c : Code} {cells slots : Nat} {Q : State → Prop} {D : va_G} {C : CI3} {A : Nat → Prop} {ad : Nat → Nat} {E : Ex} {env : Nat → Mf} {d : Nat} (X : Cx p R s m args c cX5_settles 6 RX5 D C A ad SH E) (hR : d ≤ R.frames ∧ 100 * d ≤ R.locals) (hcs : cells ≤ R.cells ∧ slots ≤ R.slots) {d_X5_isSet : Nat} (h_X5_isSet : CM l SH E yX5_isSet cX5_isSet 2 (some .boolean) d_X5_isSet (env 107)) (hd_X5_isSet : d_X5_isSet + 1 ≤ d) {d_X5_columns : Nat} (h_X5_columns : CM l SH E yX5_columns cX5_columns 1 (some .int) d_X5_columns (env 65)) (hd_X5_columns : d_X5_columns + 1 ≤ d) {d_X5_isRow : Nat} (h_X5_isRow : CM l SH E yX5_isRow cX5_isRow 2 (some .boolean) d_X5_isRow (env 68)) (hd_X5_isRow : d_X5_isRow + 1 ≤ d) {d_X5_alikeIn : Nat} (h_X5_alikeIn : CM l SH E yX5_alikeIn cX5_alikeIn 5 (some .boolean) d_X5_alikeIn (env 108)) (hd_X5_alikeIn : d_X5_alikeIn + 1 ≤ d) {d_X5_step : Nat} (h_X5_step : CM l SH E yX5_step cX5_step 6 (some .int) d_X5_step (env 81)) (hd_X5_step : d_X5_step + 1 ≤ d) : ∀ q ∈ T_X5_settles_0 E env, SS p l e R s m args below meth c cells slots Q D C A ad SH 6 cX5_settles (some .int) q.1 q.2 := by
  unfold T_X5_settles_0
  refine List.forall_mem_cons.mpr ⟨s_aload_n (pc := 0) X (i := 0) (by decide +kernel) rfl, ?_⟩
  refine List.forall_mem_cons.mpr ⟨s_iload_n (pc := 1) X (i := 1) (by decide +kernel) rfl, ?_⟩
  refine List.forall_mem_cons.mpr ⟨s_callV (pc := 2) X (idx := 116) (by decide +kernel) h_X5_isSet rfl lk_RX5_116 ls_X5_isSet lz_X5_isSet li_RX5 lc_X5_isSet hv_X5_isSet ⟨Nat.le_trans hd_X5_isSet hR.1, Nat.le_trans (by have := hd_X5_isSet; omega) hR.2⟩ hcs, ?_⟩
  refine List.forall_mem_cons.mpr ⟨s_ne0 (pc := 5) X (off := 5) (by decide +kernel) (by decide), ?_⟩
  refine List.forall_mem_cons.mpr ⟨s_iconst (pc := 8) X (n := -1) (by decide +kernel) (by decide), ?_⟩
  refine List.forall_mem_cons.mpr ⟨s_ret (pc := 9) rfl (by decide +kernel), ?_⟩
  refine List.forall_mem_cons.mpr ⟨s_iconst (pc := 10) X (n := 1) (by decide +kernel) (by decide), ?_⟩
  refine List.forall_mem_cons.mpr ⟨s_aload_n (pc := 11) X (i := 0) (by decide +kernel) rfl, ?_⟩
  refine List.forall_mem_cons.mpr ⟨s_callV (pc := 12) X (idx := 37) (by decide +kernel) h_X5_columns rfl lk_RX5_37 ls_X5_columns lz_X5_columns li_RX5 lc_X5_columns hv_X5_columns ⟨Nat.le_trans hd_X5_columns hR.1, Nat.le_trans (by have := hd_X5_columns; omega) hR.2⟩ hcs, ?_⟩
  refine List.forall_mem_cons.mpr ⟨s_ishl (pc := 15) X (by decide +kernel), ?_⟩
  refine List.forall_mem_cons.mpr ⟨s_iconst (pc := 16) X (n := 1) (by decide +kernel) (by decide), ?_⟩
  refine List.forall_mem_cons.mpr ⟨s_isub (pc := 17) X (by decide +kernel), ?_⟩
  refine List.forall_mem_cons.mpr ⟨s_istore_n (pc := 18) X (i := 2) (by decide +kernel) rfl (by decide), ?_⟩
  refine List.forall_mem_cons.mpr ⟨s_iconst (pc := 19) X (n := 0) (by decide +kernel) (by decide), ?_⟩
  refine List.forall_mem_cons.mpr ⟨s_istore_n (pc := 20) X (i := 3) (by decide +kernel) rfl (by decide), ?_⟩
  refine List.forall_mem_cons.mpr ⟨s_iload_n (pc := 21) X (i := 3) (by decide +kernel) rfl, ?_⟩
  refine List.forall_mem_cons.mpr ⟨s_bipush (pc := 22) X (n := 16) (by decide +kernel) (by decide), ?_⟩
  refine List.forall_mem_cons.mpr ⟨s_ge (pc := 24) X (off := 102) (by decide +kernel) (by decide), ?_⟩
  refine List.forall_mem_cons.mpr ⟨s_iconst (pc := 27) X (n := 0) (by decide +kernel) (by decide), ?_⟩
  refine List.forall_mem_cons.mpr ⟨s_istore (pc := 28) X (by decide +kernel) (by decide), ?_⟩
  refine List.forall_mem_cons.mpr ⟨s_iload (pc := 30) X (by decide +kernel), ?_⟩
  refine List.forall_mem_cons.mpr ⟨s_bipush (pc := 32) X (n := 16) (by decide +kernel) (by decide), ?_⟩
  refine List.forall_mem_cons.mpr ⟨s_ge (pc := 34) X (off := 86) (by decide +kernel) (by decide), ?_⟩
  refine List.forall_mem_cons.mpr ⟨s_iload_n (pc := 37) X (i := 3) (by decide +kernel) rfl, ?_⟩
  refine List.forall_mem_cons.mpr ⟨s_iload (pc := 38) X (by decide +kernel), ?_⟩
  refine List.forall_mem_cons.mpr ⟨s_eq (pc := 40) X (off := 74) (by decide +kernel) (by decide), ?_⟩
  refine List.forall_mem_cons.mpr ⟨s_aload_n (pc := 43) X (i := 0) (by decide +kernel) rfl, ?_⟩
  refine List.forall_mem_cons.mpr ⟨s_iload_n (pc := 44) X (i := 3) (by decide +kernel) rfl, ?_⟩
  refine List.forall_mem_cons.mpr ⟨s_callV (pc := 45) X (idx := 56) (by decide +kernel) h_X5_isRow rfl lk_RX5_56 ls_X5_isRow lz_X5_isRow li_RX5 lc_X5_isRow hv_X5_isRow ⟨Nat.le_trans hd_X5_isRow hR.1, Nat.le_trans (by have := hd_X5_isRow; omega) hR.2⟩ hcs, ?_⟩
  refine List.forall_mem_cons.mpr ⟨s_eq0 (pc := 48) X (off := 66) (by decide +kernel) (by decide), ?_⟩
  refine List.forall_mem_cons.mpr ⟨s_aload_n (pc := 51) X (i := 0) (by decide +kernel) rfl, ?_⟩
  refine List.forall_mem_cons.mpr ⟨s_iload (pc := 52) X (by decide +kernel), ?_⟩
  refine List.forall_mem_cons.mpr ⟨s_callV (pc := 54) X (idx := 56) (by decide +kernel) h_X5_isRow rfl lk_RX5_56 ls_X5_isRow lz_X5_isRow li_RX5 lc_X5_isRow hv_X5_isRow ⟨Nat.le_trans hd_X5_isRow hR.1, Nat.le_trans (by have := hd_X5_isRow; omega) hR.2⟩ hcs, ?_⟩
  refine List.forall_mem_cons.mpr ⟨s_eq0 (pc := 57) X (off := 57) (by decide +kernel) (by decide), ?_⟩
  refine List.forall_mem_cons.mpr ⟨s_aload_n (pc := 60) X (i := 0) (by decide +kernel) rfl, ?_⟩
  refine List.forall_mem_cons.mpr ⟨s_iload_n (pc := 61) X (i := 3) (by decide +kernel) rfl, ?_⟩
  refine List.forall_mem_cons.mpr ⟨s_iload (pc := 62) X (by decide +kernel), ?_⟩
  refine List.forall_mem_cons.mpr ⟨s_iload_n (pc := 64) X (i := 1) (by decide +kernel) rfl, ?_⟩
  refine List.forall_mem_cons.mpr ⟨s_callV (pc := 65) X (idx := 119) (by decide +kernel) h_X5_alikeIn rfl lk_RX5_119 ls_X5_alikeIn lz_X5_alikeIn li_RX5 lc_X5_alikeIn hv_X5_alikeIn ⟨Nat.le_trans hd_X5_alikeIn hR.1, Nat.le_trans (by have := hd_X5_alikeIn; omega) hR.2⟩ hcs, ?_⟩
  refine List.forall_mem_cons.mpr ⟨s_ne0 (pc := 68) X (off := 6) (by decide +kernel) (by decide), ?_⟩
  exact fun _ h => absurd h List.not_mem_nil
def T_X5_settles_1 (E : Ex) (env : Nat → Mf) : List (Nat × Stq) := [(71, o_goto 114),
  (74, o_ic 75 (0)),
  (75, o_is 77 5),
  (77, o_il 79 5),
  (79, o_al 80 0),
  (80, o_callV SH env 83 65 0 5),
  (83, o_ge 114 86),
  (86, o_al 87 0),
  (87, o_il 88 3),
  (88, o_il 90 4),
  (90, o_il 92 5),
  (92, o_callV SH env 95 81 3 5),
  (95, o_ic 96 (1)),
  (96, o_eq 108 99),
  (99, o_il 100 2),
  (100, o_ic 101 (1)),
  (101, o_il 103 5),
  (103, o_b2 104 (fun x y => x <<< (y &&& 31))),
  (104, o_ic 105 (-1)),
  (105, o_b2 106 (fun x y => x ^^^ y)),
  (106, o_b2 107 (fun x y => x &&& y)),
  (107, o_is 108 2),
  (108, o_inc 111 5 (1)),
  (111, o_goto 77),
  (114, o_inc 117 4 (1)),
  (117, o_goto 30),
  (120, o_inc 123 3 (1)),
  (123, o_goto 21),
  (126, o_il 127 2),
  (127, o_ret)]
set_option maxRecDepth 100000 in
set_option maxHeartbeats 4000000 in
theorem ts_X5_settles_1 {p : Program} {l : Launch} {e : Env} {R : Room} {s : State} {m : MethodId} {args : Array Value} {below : List Frame} {meth : Method} {c : Code} {cells slots : Nat} {Q : State → Prop} {D : va_G} {C : CI3} {A : Nat → Prop} {ad : Nat → Nat} {E : Ex} {env : Nat → Mf} {d : Nat} (X : Cx p R s m args c cX5_settles 6 RX5 D C A ad SH E) (hR : d ≤ R.frames ∧ 100 * d ≤ R.locals) (hcs : cells ≤ R.cells ∧ slots ≤ R.slots) {d_X5_isSet : Nat} (h_X5_isSet : CM l SH E yX5_isSet cX5_isSet 2 (some .boolean) d_X5_isSet (env 107)) (hd_X5_isSet : d_X5_isSet + 1 ≤ d) {d_X5_columns : Nat} (h_X5_columns : CM l SH E yX5_columns cX5_columns 1 (some .int) d_X5_columns (env 65)) (hd_X5_columns : d_X5_columns + 1 ≤ d) {d_X5_isRow : Nat} (h_X5_isRow : CM l SH E yX5_isRow cX5_isRow 2 (some .boolean) d_X5_isRow (env 68)) (hd_X5_isRow : d_X5_isRow + 1 ≤ d) {d_X5_alikeIn : Nat} (h_X5_alikeIn : CM l SH E yX5_alikeIn cX5_alikeIn 5 (some .boolean) d_X5_alikeIn (env 108)) (hd_X5_alikeIn : d_X5_alikeIn + 1 ≤ d) {d_X5_step : Nat} (h_X5_step : CM l SH E yX5_step cX5_step 6 (some .int) d_X5_step (env 81)) (hd_X5_step : d_X5_step + 1 ≤ d) : ∀ q ∈ T_X5_settles_1 E env, SS p l e R s m args below meth c cells slots Q D C A ad SH 6 cX5_settles (some .int) q.1 q.2 := by
  unfold T_X5_settles_1
  refine List.forall_mem_cons.mpr ⟨s_goto (pc := 71) X (off := 43) (by decide +kernel) (by decide), ?_⟩
  refine List.forall_mem_cons.mpr ⟨s_iconst (pc := 74) X (n := 0) (by decide +kernel) (by decide), ?_⟩
  refine List.forall_mem_cons.mpr ⟨s_istore (pc := 75) X (by decide +kernel) (by decide), ?_⟩
  refine List.forall_mem_cons.mpr ⟨s_iload (pc := 77) X (by decide +kernel), ?_⟩
  refine List.forall_mem_cons.mpr ⟨s_aload_n (pc := 79) X (i := 0) (by decide +kernel) rfl, ?_⟩
  refine List.forall_mem_cons.mpr ⟨s_callV (pc := 80) X (idx := 37) (by decide +kernel) h_X5_columns rfl lk_RX5_37 ls_X5_columns lz_X5_columns li_RX5 lc_X5_columns hv_X5_columns ⟨Nat.le_trans hd_X5_columns hR.1, Nat.le_trans (by have := hd_X5_columns; omega) hR.2⟩ hcs, ?_⟩
  refine List.forall_mem_cons.mpr ⟨s_ge (pc := 83) X (off := 31) (by decide +kernel) (by decide), ?_⟩
  refine List.forall_mem_cons.mpr ⟨s_aload_n (pc := 86) X (i := 0) (by decide +kernel) rfl, ?_⟩
  refine List.forall_mem_cons.mpr ⟨s_iload_n (pc := 87) X (i := 3) (by decide +kernel) rfl, ?_⟩
  refine List.forall_mem_cons.mpr ⟨s_iload (pc := 88) X (by decide +kernel), ?_⟩
  refine List.forall_mem_cons.mpr ⟨s_iload (pc := 90) X (by decide +kernel), ?_⟩
  refine List.forall_mem_cons.mpr ⟨s_callV (pc := 92) X (idx := 67) (by decide +kernel) h_X5_step rfl lk_RX5_67 ls_X5_step lz_X5_step li_RX5 lc_X5_step hv_X5_step ⟨Nat.le_trans hd_X5_step hR.1, Nat.le_trans (by have := hd_X5_step; omega) hR.2⟩ hcs, ?_⟩
  refine List.forall_mem_cons.mpr ⟨s_iconst (pc := 95) X (n := 1) (by decide +kernel) (by decide), ?_⟩
  refine List.forall_mem_cons.mpr ⟨s_eq (pc := 96) X (off := 12) (by decide +kernel) (by decide), ?_⟩
  refine List.forall_mem_cons.mpr ⟨s_iload_n (pc := 99) X (i := 2) (by decide +kernel) rfl, ?_⟩
  refine List.forall_mem_cons.mpr ⟨s_iconst (pc := 100) X (n := 1) (by decide +kernel) (by decide), ?_⟩
  refine List.forall_mem_cons.mpr ⟨s_iload (pc := 101) X (by decide +kernel), ?_⟩
  refine List.forall_mem_cons.mpr ⟨s_ishl (pc := 103) X (by decide +kernel), ?_⟩
  refine List.forall_mem_cons.mpr ⟨s_iconst (pc := 104) X (n := -1) (by decide +kernel) (by decide), ?_⟩
  refine List.forall_mem_cons.mpr ⟨s_ixor (pc := 105) X (by decide +kernel), ?_⟩
  refine List.forall_mem_cons.mpr ⟨s_iand (pc := 106) X (by decide +kernel), ?_⟩
  refine List.forall_mem_cons.mpr ⟨s_istore_n (pc := 107) X (i := 2) (by decide +kernel) rfl (by decide), ?_⟩
  refine List.forall_mem_cons.mpr ⟨s_iinc (pc := 108) X (n := 1) (by decide +kernel) (by decide) (by decide), ?_⟩
  refine List.forall_mem_cons.mpr ⟨s_goto (pc := 111) X (off := -34) (by decide +kernel) (by decide), ?_⟩
  refine List.forall_mem_cons.mpr ⟨s_iinc (pc := 114) X (n := 1) (by decide +kernel) (by decide) (by decide), ?_⟩
  refine List.forall_mem_cons.mpr ⟨s_goto (pc := 117) X (off := -87) (by decide +kernel) (by decide), ?_⟩
  refine List.forall_mem_cons.mpr ⟨s_iinc (pc := 120) X (n := 1) (by decide +kernel) (by decide) (by decide), ?_⟩
  refine List.forall_mem_cons.mpr ⟨s_goto (pc := 123) X (off := -102) (by decide +kernel) (by decide), ?_⟩
  refine List.forall_mem_cons.mpr ⟨s_iload_n (pc := 126) X (i := 2) (by decide +kernel) rfl, ?_⟩
  refine List.forall_mem_cons.mpr ⟨s_ret (pc := 127) rfl (by decide +kernel), ?_⟩
  exact fun _ h => absurd h List.not_mem_nil
def T_X5_settles (E : Ex) (env : Nat → Mf) : List (Nat × Stq) := T_X5_settles_0 E env ++ (T_X5_settles_1 E env)
theorem ts_X5_settles {p : Program} {l : Launch} {e : Env} {R : Room} {s : State} {m : MethodId} {args : Array Value} {below : List Frame} {meth : Method} {c : Code} {cells slots : Nat} {Q : State → Prop} {D : va_G} {C : CI3} {A : Nat → Prop} {ad : Nat → Nat} {E : Ex} {env : Nat → Mf} {d : Nat} (X : Cx p R s m args c cX5_settles 6 RX5 D C A ad SH E) (hR : d ≤ R.frames ∧ 100 * d ≤ R.locals) (hcs : cells ≤ R.cells ∧ slots ≤ R.slots) {d_X5_isSet : Nat} (h_X5_isSet : CM l SH E yX5_isSet cX5_isSet 2 (some .boolean) d_X5_isSet (env 107)) (hd_X5_isSet : d_X5_isSet + 1 ≤ d) {d_X5_columns : Nat} (h_X5_columns : CM l SH E yX5_columns cX5_columns 1 (some .int) d_X5_columns (env 65)) (hd_X5_columns : d_X5_columns + 1 ≤ d) {d_X5_isRow : Nat} (h_X5_isRow : CM l SH E yX5_isRow cX5_isRow 2 (some .boolean) d_X5_isRow (env 68)) (hd_X5_isRow : d_X5_isRow + 1 ≤ d) {d_X5_alikeIn : Nat} (h_X5_alikeIn : CM l SH E yX5_alikeIn cX5_alikeIn 5 (some .boolean) d_X5_alikeIn (env 108)) (hd_X5_alikeIn : d_X5_alikeIn + 1 ≤ d) {d_X5_step : Nat} (h_X5_step : CM l SH E yX5_step cX5_step 6 (some .int) d_X5_step (env 81)) (hd_X5_step : d_X5_step + 1 ≤ d) : ∀ q ∈ T_X5_settles E env, SS p l e R s m args below meth c cells slots Q D C A ad SH 6 cX5_settles (some .int) q.1 q.2 := List.forall_mem_append.mpr ⟨ts_X5_settles_0 X hR hcs h_X5_isSet hd_X5_isSet h_X5_columns hd_X5_columns h_X5_isRow hd_X5_isRow h_X5_alikeIn hd_X5_alikeIn h_X5_step hd_X5_step, ts_X5_settles_1 X hR hcs h_X5_isSet hd_X5_isSet h_X5_columns hd_X5_columns h_X5_isRow hd_X5_isRow h_X5_alikeIn hd_X5_alikeIn h_X5_step hd_X5_step⟩
def T_X5_isKey (E : Ex) (env : Nat → Mf) : List (Nat × Stq) := [(0, o_ic 1 (0)),
  (1, o_is 2 2),
  (2, o_il 3 2),
  (3, o_ic 5 (16)),
  (5, o_ge 58 8),
  (8, o_il 9 2),
  (9, o_ic 10 (1)),
  (10, o_b2 11 (fun x y => x + y)),
  (11, o_is 12 3),
  (12, o_il 13 3),
  (13, o_ic 15 (16)),
  (15, o_ge 52 18),
  (18, o_al 19 0),
  (19, o_il 20 2),
  (20, o_callV SH env 23 68 1 5),
  (23, o_eq0 46 26),
  (26, o_al 27 0),
  (27, o_il 28 3),
  (28, o_callV SH env 31 68 1 5),
  (31, o_eq0 46 34),
  (34, o_al 35 0),
  (35, o_il 36 2),
  (36, o_il 37 3),
  (37, o_il 38 1),
  (38, o_callV SH env 41 108 3 5),
  (41, o_eq0 46 44),
  (44, o_ic 45 (0)),
  (45, o_retZ),
  (46, o_inc 49 3 (1)),
  (49, o_goto 12),
  (52, o_inc 55 2 (1)),
  (55, o_goto 2),
  (58, o_ic 59 (1)),
  (59, o_retZ)]
set_option maxRecDepth 100000 in
set_option maxHeartbeats 4000000 in
theorem ts_X5_isKey {p : Program} {l : Launch} {e : Env} {R : Room} {s : State} {m : MethodId} {args : Array Value} {below : List Frame} {meth : Method} {c : Code} {cells slots : Nat} {Q : State → Prop} {D : va_G} {C : CI3} {A : Nat → Prop} {ad : Nat → Nat} {E : Ex} {env : Nat → Mf} {d : Nat} (X : Cx p R s m args c cX5_isKey 4 RX5 D C A ad SH E) (hR : d ≤ R.frames ∧ 100 * d ≤ R.locals) (hcs : cells ≤ R.cells ∧ slots ≤ R.slots) {d_X5_isRow : Nat} (h_X5_isRow : CM l SH E yX5_isRow cX5_isRow 2 (some .boolean) d_X5_isRow (env 68)) (hd_X5_isRow : d_X5_isRow + 1 ≤ d) {d_X5_alikeIn : Nat} (h_X5_alikeIn : CM l SH E yX5_alikeIn cX5_alikeIn 5 (some .boolean) d_X5_alikeIn (env 108)) (hd_X5_alikeIn : d_X5_alikeIn + 1 ≤ d) : ∀ q ∈ T_X5_isKey E env, SS p l e R s m args below meth c cells slots Q D C A ad SH 4 cX5_isKey (some .boolean) q.1 q.2 := by
  unfold T_X5_isKey
  refine List.forall_mem_cons.mpr ⟨s_iconst (pc := 0) X (n := 0) (by decide +kernel) (by decide), ?_⟩
  refine List.forall_mem_cons.mpr ⟨s_istore_n (pc := 1) X (i := 2) (by decide +kernel) rfl (by decide), ?_⟩
  refine List.forall_mem_cons.mpr ⟨s_iload_n (pc := 2) X (i := 2) (by decide +kernel) rfl, ?_⟩
  refine List.forall_mem_cons.mpr ⟨s_bipush (pc := 3) X (n := 16) (by decide +kernel) (by decide), ?_⟩
  refine List.forall_mem_cons.mpr ⟨s_ge (pc := 5) X (off := 53) (by decide +kernel) (by decide), ?_⟩
  refine List.forall_mem_cons.mpr ⟨s_iload_n (pc := 8) X (i := 2) (by decide +kernel) rfl, ?_⟩
  refine List.forall_mem_cons.mpr ⟨s_iconst (pc := 9) X (n := 1) (by decide +kernel) (by decide), ?_⟩
  refine List.forall_mem_cons.mpr ⟨s_iadd (pc := 10) X (by decide +kernel), ?_⟩
  refine List.forall_mem_cons.mpr ⟨s_istore_n (pc := 11) X (i := 3) (by decide +kernel) rfl (by decide), ?_⟩
  refine List.forall_mem_cons.mpr ⟨s_iload_n (pc := 12) X (i := 3) (by decide +kernel) rfl, ?_⟩
  refine List.forall_mem_cons.mpr ⟨s_bipush (pc := 13) X (n := 16) (by decide +kernel) (by decide), ?_⟩
  refine List.forall_mem_cons.mpr ⟨s_ge (pc := 15) X (off := 37) (by decide +kernel) (by decide), ?_⟩
  refine List.forall_mem_cons.mpr ⟨s_aload_n (pc := 18) X (i := 0) (by decide +kernel) rfl, ?_⟩
  refine List.forall_mem_cons.mpr ⟨s_iload_n (pc := 19) X (i := 2) (by decide +kernel) rfl, ?_⟩
  refine List.forall_mem_cons.mpr ⟨s_callV (pc := 20) X (idx := 56) (by decide +kernel) h_X5_isRow rfl lk_RX5_56 ls_X5_isRow lz_X5_isRow li_RX5 lc_X5_isRow hv_X5_isRow ⟨Nat.le_trans hd_X5_isRow hR.1, Nat.le_trans (by have := hd_X5_isRow; omega) hR.2⟩ hcs, ?_⟩
  refine List.forall_mem_cons.mpr ⟨s_eq0 (pc := 23) X (off := 23) (by decide +kernel) (by decide), ?_⟩
  refine List.forall_mem_cons.mpr ⟨s_aload_n (pc := 26) X (i := 0) (by decide +kernel) rfl, ?_⟩
  refine List.forall_mem_cons.mpr ⟨s_iload_n (pc := 27) X (i := 3) (by decide +kernel) rfl, ?_⟩
  refine List.forall_mem_cons.mpr ⟨s_callV (pc := 28) X (idx := 56) (by decide +kernel) h_X5_isRow rfl lk_RX5_56 ls_X5_isRow lz_X5_isRow li_RX5 lc_X5_isRow hv_X5_isRow ⟨Nat.le_trans hd_X5_isRow hR.1, Nat.le_trans (by have := hd_X5_isRow; omega) hR.2⟩ hcs, ?_⟩
  refine List.forall_mem_cons.mpr ⟨s_eq0 (pc := 31) X (off := 15) (by decide +kernel) (by decide), ?_⟩
  refine List.forall_mem_cons.mpr ⟨s_aload_n (pc := 34) X (i := 0) (by decide +kernel) rfl, ?_⟩
  refine List.forall_mem_cons.mpr ⟨s_iload_n (pc := 35) X (i := 2) (by decide +kernel) rfl, ?_⟩
  refine List.forall_mem_cons.mpr ⟨s_iload_n (pc := 36) X (i := 3) (by decide +kernel) rfl, ?_⟩
  refine List.forall_mem_cons.mpr ⟨s_iload_n (pc := 37) X (i := 1) (by decide +kernel) rfl, ?_⟩
  refine List.forall_mem_cons.mpr ⟨s_callV (pc := 38) X (idx := 119) (by decide +kernel) h_X5_alikeIn rfl lk_RX5_119 ls_X5_alikeIn lz_X5_alikeIn li_RX5 lc_X5_alikeIn hv_X5_alikeIn ⟨Nat.le_trans hd_X5_alikeIn hR.1, Nat.le_trans (by have := hd_X5_alikeIn; omega) hR.2⟩ hcs, ?_⟩
  refine List.forall_mem_cons.mpr ⟨s_eq0 (pc := 41) X (off := 5) (by decide +kernel) (by decide), ?_⟩
  refine List.forall_mem_cons.mpr ⟨s_iconst (pc := 44) X (n := 0) (by decide +kernel) (by decide), ?_⟩
  refine List.forall_mem_cons.mpr ⟨s_retZ (pc := 45) (by decide +kernel), ?_⟩
  refine List.forall_mem_cons.mpr ⟨s_iinc (pc := 46) X (n := 1) (by decide +kernel) (by decide) (by decide), ?_⟩
  refine List.forall_mem_cons.mpr ⟨s_goto (pc := 49) X (off := -37) (by decide +kernel) (by decide), ?_⟩
  refine List.forall_mem_cons.mpr ⟨s_iinc (pc := 52) X (n := 1) (by decide +kernel) (by decide) (by decide), ?_⟩
  refine List.forall_mem_cons.mpr ⟨s_goto (pc := 55) X (off := -53) (by decide +kernel) (by decide), ?_⟩
  refine List.forall_mem_cons.mpr ⟨s_iconst (pc := 58) X (n := 1) (by decide +kernel) (by decide), ?_⟩
  refine List.forall_mem_cons.mpr ⟨s_retZ (pc := 59) (by decide +kernel), ?_⟩
  exact fun _ h => absurd h List.not_mem_nil
def T_X5_isLeastKey (E : Ex) (env : Nat → Mf) : List (Nat × Stq) := [(0, o_al 1 0),
  (1, o_il 2 1),
  (2, o_callV SH env 5 110 1 5),
  (5, o_ne0 10 8),
  (8, o_ic 9 (0)),
  (9, o_retZ),
  (10, o_ic 11 (0)),
  (11, o_is 12 2),
  (12, o_il 13 2),
  (13, o_il 14 1),
  (14, o_ge 41 17),
  (17, o_il 18 2),
  (18, o_il 19 1),
  (19, o_ic 20 (-1)),
  (20, o_b2 21 (fun x y => x ^^^ y)),
  (21, o_b2 22 (fun x y => x &&& y)),
  (22, o_ne0 35 25),
  (25, o_al 26 0),
  (26, o_il 27 2),
  (27, o_callV SH env 30 110 1 5),
  (30, o_eq0 35 33),
  (33, o_ic 34 (0)),
  (34, o_retZ),
  (35, o_inc 38 2 (1)),
  (38, o_goto 12),
  (41, o_ic 42 (1)),
  (42, o_retZ)]
set_option maxRecDepth 100000 in
set_option maxHeartbeats 4000000 in
theorem ts_X5_isLeastKey {p : Program} {l : Launch} {e : Env} {R : Room} {s : State} {m : MethodId} {args : Array Value} {below : List Frame} {meth : Method} {c : Code} {cells slots : Nat} {Q : State → Prop} {D : va_G} {C : CI3} {A : Nat → Prop} {ad : Nat → Nat} {E : Ex} {env : Nat → Mf} {d : Nat} (X : Cx p R s m args c cX5_isLeastKey 3 RX5 D C A ad SH E) (hR : d ≤ R.frames ∧ 100 * d ≤ R.locals) (hcs : cells ≤ R.cells ∧ slots ≤ R.slots) {d_X5_isKey : Nat} (h_X5_isKey : CM l SH E yX5_isKey cX5_isKey 4 (some .boolean) d_X5_isKey (env 110)) (hd_X5_isKey : d_X5_isKey + 1 ≤ d) : ∀ q ∈ T_X5_isLeastKey E env, SS p l e R s m args below meth c cells slots Q D C A ad SH 3 cX5_isLeastKey (some .boolean) q.1 q.2 := by
  unfold T_X5_isLeastKey
  refine List.forall_mem_cons.mpr ⟨s_aload_n (pc := 0) X (i := 0) (by decide +kernel) rfl, ?_⟩
  refine List.forall_mem_cons.mpr ⟨s_iload_n (pc := 1) X (i := 1) (by decide +kernel) rfl, ?_⟩
  refine List.forall_mem_cons.mpr ⟨s_callV (pc := 2) X (idx := 122) (by decide +kernel) h_X5_isKey rfl lk_RX5_122 ls_X5_isKey lz_X5_isKey li_RX5 lc_X5_isKey hv_X5_isKey ⟨Nat.le_trans hd_X5_isKey hR.1, Nat.le_trans (by have := hd_X5_isKey; omega) hR.2⟩ hcs, ?_⟩
  refine List.forall_mem_cons.mpr ⟨s_ne0 (pc := 5) X (off := 5) (by decide +kernel) (by decide), ?_⟩
  refine List.forall_mem_cons.mpr ⟨s_iconst (pc := 8) X (n := 0) (by decide +kernel) (by decide), ?_⟩
  refine List.forall_mem_cons.mpr ⟨s_retZ (pc := 9) (by decide +kernel), ?_⟩
  refine List.forall_mem_cons.mpr ⟨s_iconst (pc := 10) X (n := 0) (by decide +kernel) (by decide), ?_⟩
  refine List.forall_mem_cons.mpr ⟨s_istore_n (pc := 11) X (i := 2) (by decide +kernel) rfl (by decide), ?_⟩
  refine List.forall_mem_cons.mpr ⟨s_iload_n (pc := 12) X (i := 2) (by decide +kernel) rfl, ?_⟩
  refine List.forall_mem_cons.mpr ⟨s_iload_n (pc := 13) X (i := 1) (by decide +kernel) rfl, ?_⟩
  refine List.forall_mem_cons.mpr ⟨s_ge (pc := 14) X (off := 27) (by decide +kernel) (by decide), ?_⟩
  refine List.forall_mem_cons.mpr ⟨s_iload_n (pc := 17) X (i := 2) (by decide +kernel) rfl, ?_⟩
  refine List.forall_mem_cons.mpr ⟨s_iload_n (pc := 18) X (i := 1) (by decide +kernel) rfl, ?_⟩
  refine List.forall_mem_cons.mpr ⟨s_iconst (pc := 19) X (n := -1) (by decide +kernel) (by decide), ?_⟩
  refine List.forall_mem_cons.mpr ⟨s_ixor (pc := 20) X (by decide +kernel), ?_⟩
  refine List.forall_mem_cons.mpr ⟨s_iand (pc := 21) X (by decide +kernel), ?_⟩
  refine List.forall_mem_cons.mpr ⟨s_ne0 (pc := 22) X (off := 13) (by decide +kernel) (by decide), ?_⟩
  refine List.forall_mem_cons.mpr ⟨s_aload_n (pc := 25) X (i := 0) (by decide +kernel) rfl, ?_⟩
  refine List.forall_mem_cons.mpr ⟨s_iload_n (pc := 26) X (i := 2) (by decide +kernel) rfl, ?_⟩
  refine List.forall_mem_cons.mpr ⟨s_callV (pc := 27) X (idx := 122) (by decide +kernel) h_X5_isKey rfl lk_RX5_122 ls_X5_isKey lz_X5_isKey li_RX5 lc_X5_isKey hv_X5_isKey ⟨Nat.le_trans hd_X5_isKey hR.1, Nat.le_trans (by have := hd_X5_isKey; omega) hR.2⟩ hcs, ?_⟩
  refine List.forall_mem_cons.mpr ⟨s_eq0 (pc := 30) X (off := 5) (by decide +kernel) (by decide), ?_⟩
  refine List.forall_mem_cons.mpr ⟨s_iconst (pc := 33) X (n := 0) (by decide +kernel) (by decide), ?_⟩
  refine List.forall_mem_cons.mpr ⟨s_retZ (pc := 34) (by decide +kernel), ?_⟩
  refine List.forall_mem_cons.mpr ⟨s_iinc (pc := 35) X (n := 1) (by decide +kernel) (by decide) (by decide), ?_⟩
  refine List.forall_mem_cons.mpr ⟨s_goto (pc := 38) X (off := -26) (by decide +kernel) (by decide), ?_⟩
  refine List.forall_mem_cons.mpr ⟨s_iconst (pc := 41) X (n := 1) (by decide +kernel) (by decide), ?_⟩
  refine List.forall_mem_cons.mpr ⟨s_retZ (pc := 42) (by decide +kernel), ?_⟩
  exact fun _ h => absurd h List.not_mem_nil
def T_X5_keys (E : Ex) (env : Nat → Mf) : List (Nat × Stq) := [(0, o_ic 1 (0)),
  (1, o_is 2 1),
  (2, o_ic 3 (0)),
  (3, o_is 4 2),
  (4, o_il 5 2),
  (5, o_ic 6 (1)),
  (6, o_al 7 0),
  (7, o_callV SH env 10 65 0 5),
  (10, o_b2 11 (fun x y => x <<< (y &&& 31))),
  (11, o_ge 36 14),
  (14, o_il 15 1),
  (15, o_al 16 0),
  (16, o_il 17 2),
  (17, o_callV SH env 20 111 1 5),
  (20, o_eq0 27 23),
  (23, o_ic 24 (1)),
  (24, o_goto 28),
  (27, o_ic 28 (0)),
  (28, o_b2 29 (fun x y => x + y)),
  (29, o_is 30 1),
  (30, o_inc 33 2 (1)),
  (33, o_goto 4),
  (36, o_il 37 1),
  (37, o_ret)]
set_option maxRecDepth 100000 in
set_option maxHeartbeats 4000000 in
theorem ts_X5_keys {p : Program} {l : Launch} {e : Env} {R : Room} {s : State} {m : MethodId} {args : Array Value} {below : List Frame} {meth : Method} {c : Code} {cells slots : Nat} {Q : State → Prop} {D : va_G} {C : CI3} {A : Nat → Prop} {ad : Nat → Nat} {E : Ex} {env : Nat → Mf} {d : Nat} (X : Cx p R s m args c cX5_keys 3 RX5 D C A ad SH E) (hR : d ≤ R.frames ∧ 100 * d ≤ R.locals) (hcs : cells ≤ R.cells ∧ slots ≤ R.slots) {d_X5_columns : Nat} (h_X5_columns : CM l SH E yX5_columns cX5_columns 1 (some .int) d_X5_columns (env 65)) (hd_X5_columns : d_X5_columns + 1 ≤ d) {d_X5_isLeastKey : Nat} (h_X5_isLeastKey : CM l SH E yX5_isLeastKey cX5_isLeastKey 3 (some .boolean) d_X5_isLeastKey (env 111)) (hd_X5_isLeastKey : d_X5_isLeastKey + 1 ≤ d) : ∀ q ∈ T_X5_keys E env, SS p l e R s m args below meth c cells slots Q D C A ad SH 3 cX5_keys (some .int) q.1 q.2 := by
  unfold T_X5_keys
  refine List.forall_mem_cons.mpr ⟨s_iconst (pc := 0) X (n := 0) (by decide +kernel) (by decide), ?_⟩
  refine List.forall_mem_cons.mpr ⟨s_istore_n (pc := 1) X (i := 1) (by decide +kernel) rfl (by decide), ?_⟩
  refine List.forall_mem_cons.mpr ⟨s_iconst (pc := 2) X (n := 0) (by decide +kernel) (by decide), ?_⟩
  refine List.forall_mem_cons.mpr ⟨s_istore_n (pc := 3) X (i := 2) (by decide +kernel) rfl (by decide), ?_⟩
  refine List.forall_mem_cons.mpr ⟨s_iload_n (pc := 4) X (i := 2) (by decide +kernel) rfl, ?_⟩
  refine List.forall_mem_cons.mpr ⟨s_iconst (pc := 5) X (n := 1) (by decide +kernel) (by decide), ?_⟩
  refine List.forall_mem_cons.mpr ⟨s_aload_n (pc := 6) X (i := 0) (by decide +kernel) rfl, ?_⟩
  refine List.forall_mem_cons.mpr ⟨s_callV (pc := 7) X (idx := 37) (by decide +kernel) h_X5_columns rfl lk_RX5_37 ls_X5_columns lz_X5_columns li_RX5 lc_X5_columns hv_X5_columns ⟨Nat.le_trans hd_X5_columns hR.1, Nat.le_trans (by have := hd_X5_columns; omega) hR.2⟩ hcs, ?_⟩
  refine List.forall_mem_cons.mpr ⟨s_ishl (pc := 10) X (by decide +kernel), ?_⟩
  refine List.forall_mem_cons.mpr ⟨s_ge (pc := 11) X (off := 25) (by decide +kernel) (by decide), ?_⟩
  refine List.forall_mem_cons.mpr ⟨s_iload_n (pc := 14) X (i := 1) (by decide +kernel) rfl, ?_⟩
  refine List.forall_mem_cons.mpr ⟨s_aload_n (pc := 15) X (i := 0) (by decide +kernel) rfl, ?_⟩
  refine List.forall_mem_cons.mpr ⟨s_iload_n (pc := 16) X (i := 2) (by decide +kernel) rfl, ?_⟩
  refine List.forall_mem_cons.mpr ⟨s_callV (pc := 17) X (idx := 125) (by decide +kernel) h_X5_isLeastKey rfl lk_RX5_125 ls_X5_isLeastKey lz_X5_isLeastKey li_RX5 lc_X5_isLeastKey hv_X5_isLeastKey ⟨Nat.le_trans hd_X5_isLeastKey hR.1, Nat.le_trans (by have := hd_X5_isLeastKey; omega) hR.2⟩ hcs, ?_⟩
  refine List.forall_mem_cons.mpr ⟨s_eq0 (pc := 20) X (off := 7) (by decide +kernel) (by decide), ?_⟩
  refine List.forall_mem_cons.mpr ⟨s_iconst (pc := 23) X (n := 1) (by decide +kernel) (by decide), ?_⟩
  refine List.forall_mem_cons.mpr ⟨s_goto (pc := 24) X (off := 4) (by decide +kernel) (by decide), ?_⟩
  refine List.forall_mem_cons.mpr ⟨s_iconst (pc := 27) X (n := 0) (by decide +kernel) (by decide), ?_⟩
  refine List.forall_mem_cons.mpr ⟨s_iadd (pc := 28) X (by decide +kernel), ?_⟩
  refine List.forall_mem_cons.mpr ⟨s_istore_n (pc := 29) X (i := 1) (by decide +kernel) rfl (by decide), ?_⟩
  refine List.forall_mem_cons.mpr ⟨s_iinc (pc := 30) X (n := 1) (by decide +kernel) (by decide) (by decide), ?_⟩
  refine List.forall_mem_cons.mpr ⟨s_goto (pc := 33) X (off := -29) (by decide +kernel) (by decide), ?_⟩
  refine List.forall_mem_cons.mpr ⟨s_iload_n (pc := 36) X (i := 1) (by decide +kernel) rfl, ?_⟩
  refine List.forall_mem_cons.mpr ⟨s_ret (pc := 37) rfl (by decide +kernel), ?_⟩
  exact fun _ h => absurd h List.not_mem_nil
def T_X5_key (E : Ex) (env : Nat → Mf) : List (Nat × Stq) := [(0, o_ic 1 (0)),
  (1, o_is 2 2),
  (2, o_ic 3 (0)),
  (3, o_is 4 3),
  (4, o_il 5 3),
  (5, o_ic 6 (1)),
  (6, o_al 7 0),
  (7, o_callV SH env 10 65 0 5),
  (10, o_b2 11 (fun x y => x <<< (y &&& 31))),
  (11, o_ge 41 14),
  (14, o_al 15 0),
  (15, o_il 16 3),
  (16, o_callV SH env 19 111 1 5),
  (19, o_ne0 25 22),
  (22, o_goto 35),
  (25, o_il 26 2),
  (26, o_il 27 1),
  (27, o_ne 32 30),
  (30, o_il 31 3),
  (31, o_ret),
  (32, o_inc 35 2 (1)),
  (35, o_inc 38 3 (1)),
  (38, o_goto 4),
  (41, o_ic 42 (-1)),
  (42, o_ret)]
set_option maxRecDepth 100000 in
set_option maxHeartbeats 4000000 in
theorem ts_X5_key {p : Program} {l : Launch} {e : Env} {R : Room} {s : State} {m : MethodId} {args : Array Value} {below : List Frame} {meth : Method} {c : Code} {cells slots : Nat} {Q : State → Prop} {D : va_G} {C : CI3} {A : Nat → Prop} {ad : Nat → Nat} {E : Ex} {env : Nat → Mf} {d : Nat} (X : Cx p R s m args c cX5_key 4 RX5 D C A ad SH E) (hR : d ≤ R.frames ∧ 100 * d ≤ R.locals) (hcs : cells ≤ R.cells ∧ slots ≤ R.slots) {d_X5_columns : Nat} (h_X5_columns : CM l SH E yX5_columns cX5_columns 1 (some .int) d_X5_columns (env 65)) (hd_X5_columns : d_X5_columns + 1 ≤ d) {d_X5_isLeastKey : Nat} (h_X5_isLeastKey : CM l SH E yX5_isLeastKey cX5_isLeastKey 3 (some .boolean) d_X5_isLeastKey (env 111)) (hd_X5_isLeastKey : d_X5_isLeastKey + 1 ≤ d) : ∀ q ∈ T_X5_key E env, SS p l e R s m args below meth c cells slots Q D C A ad SH 4 cX5_key (some .int) q.1 q.2 := by
  unfold T_X5_key
  refine List.forall_mem_cons.mpr ⟨s_iconst (pc := 0) X (n := 0) (by decide +kernel) (by decide), ?_⟩
  refine List.forall_mem_cons.mpr ⟨s_istore_n (pc := 1) X (i := 2) (by decide +kernel) rfl (by decide), ?_⟩
  refine List.forall_mem_cons.mpr ⟨s_iconst (pc := 2) X (n := 0) (by decide +kernel) (by decide), ?_⟩
  refine List.forall_mem_cons.mpr ⟨s_istore_n (pc := 3) X (i := 3) (by decide +kernel) rfl (by decide), ?_⟩
  refine List.forall_mem_cons.mpr ⟨s_iload_n (pc := 4) X (i := 3) (by decide +kernel) rfl, ?_⟩
  refine List.forall_mem_cons.mpr ⟨s_iconst (pc := 5) X (n := 1) (by decide +kernel) (by decide), ?_⟩
  refine List.forall_mem_cons.mpr ⟨s_aload_n (pc := 6) X (i := 0) (by decide +kernel) rfl, ?_⟩
  refine List.forall_mem_cons.mpr ⟨s_callV (pc := 7) X (idx := 37) (by decide +kernel) h_X5_columns rfl lk_RX5_37 ls_X5_columns lz_X5_columns li_RX5 lc_X5_columns hv_X5_columns ⟨Nat.le_trans hd_X5_columns hR.1, Nat.le_trans (by have := hd_X5_columns; omega) hR.2⟩ hcs, ?_⟩
  refine List.forall_mem_cons.mpr ⟨s_ishl (pc := 10) X (by decide +kernel), ?_⟩
  refine List.forall_mem_cons.mpr ⟨s_ge (pc := 11) X (off := 30) (by decide +kernel) (by decide), ?_⟩
  refine List.forall_mem_cons.mpr ⟨s_aload_n (pc := 14) X (i := 0) (by decide +kernel) rfl, ?_⟩
  refine List.forall_mem_cons.mpr ⟨s_iload_n (pc := 15) X (i := 3) (by decide +kernel) rfl, ?_⟩
  refine List.forall_mem_cons.mpr ⟨s_callV (pc := 16) X (idx := 125) (by decide +kernel) h_X5_isLeastKey rfl lk_RX5_125 ls_X5_isLeastKey lz_X5_isLeastKey li_RX5 lc_X5_isLeastKey hv_X5_isLeastKey ⟨Nat.le_trans hd_X5_isLeastKey hR.1, Nat.le_trans (by have := hd_X5_isLeastKey; omega) hR.2⟩ hcs, ?_⟩
  refine List.forall_mem_cons.mpr ⟨s_ne0 (pc := 19) X (off := 6) (by decide +kernel) (by decide), ?_⟩
  refine List.forall_mem_cons.mpr ⟨s_goto (pc := 22) X (off := 13) (by decide +kernel) (by decide), ?_⟩
  refine List.forall_mem_cons.mpr ⟨s_iload_n (pc := 25) X (i := 2) (by decide +kernel) rfl, ?_⟩
  refine List.forall_mem_cons.mpr ⟨s_iload_n (pc := 26) X (i := 1) (by decide +kernel) rfl, ?_⟩
  refine List.forall_mem_cons.mpr ⟨s_ne (pc := 27) X (off := 5) (by decide +kernel) (by decide), ?_⟩
  refine List.forall_mem_cons.mpr ⟨s_iload_n (pc := 30) X (i := 3) (by decide +kernel) rfl, ?_⟩
  refine List.forall_mem_cons.mpr ⟨s_ret (pc := 31) rfl (by decide +kernel), ?_⟩
  refine List.forall_mem_cons.mpr ⟨s_iinc (pc := 32) X (n := 1) (by decide +kernel) (by decide) (by decide), ?_⟩
  refine List.forall_mem_cons.mpr ⟨s_iinc (pc := 35) X (n := 1) (by decide +kernel) (by decide) (by decide), ?_⟩
  refine List.forall_mem_cons.mpr ⟨s_goto (pc := 38) X (off := -34) (by decide +kernel) (by decide), ?_⟩
  refine List.forall_mem_cons.mpr ⟨s_iconst (pc := 41) X (n := -1) (by decide +kernel) (by decide), ?_⟩
  refine List.forall_mem_cons.mpr ⟨s_ret (pc := 42) rfl (by decide +kernel), ?_⟩
  exact fun _ h => absurd h List.not_mem_nil
def T_X5_tell (E : Ex) (env : Nat → Mf) : List (Nat × Stq) := [(0, o_il 1 1),
  (1, o_ic 2 (0)),
  (2, o_ic 3 (3)),
  (3, o_call env 6 64 3),
  (6, o_eq0 21 9),
  (9, o_il 10 2),
  (10, o_eq0 23 13),
  (13, o_al 14 0),
  (14, o_il 15 2),
  (15, o_callV SH env 18 90 1 5),
  (18, o_ne0 23 21),
  (21, o_ic 22 (0)),
  (22, o_retZ),
  (23, o_al 24 0),
  (24, o_callV SH env 27 70 0 5),
  (27, o_al 28 0),
  (28, o_gR SH 31 5 0),
  (31, o_ic 34 (129)),
  (34, o_il 35 1),
  (35, o_b2 36 (fun x y => x + y)),
  (36, o_il 37 2),
  (37, o_is_ SH 38),
  (38, o_ic 39 (1)),
  (39, o_retZ)]
set_option maxRecDepth 100000 in
set_option maxHeartbeats 4000000 in
theorem ts_X5_tell {p : Program} {l : Launch} {e : Env} {R : Room} {s : State} {m : MethodId} {args : Array Value} {below : List Frame} {meth : Method} {c : Code} {cells slots : Nat} {Q : State → Prop} {D : va_G} {C : CI3} {A : Nat → Prop} {ad : Nat → Nat} {E : Ex} {env : Nat → Mf} {d : Nat} (X : Cx p R s m args c cX5_tell 3 RX5 D C A ad SH E) (hR : d ≤ R.frames ∧ 100 * d ≤ R.locals) (hcs : cells ≤ R.cells ∧ slots ≤ R.slots) {d_X5_isIn : Nat} (h_X5_isIn : CM l SH E yX5_isIn cX5_isIn 3 (some .boolean) d_X5_isIn (env 64)) (hd_X5_isIn : d_X5_isIn + 1 ≤ d) {d_X5_isLaw : Nat} (h_X5_isLaw : CM l SH E yX5_isLaw cX5_isLaw 2 (some .boolean) d_X5_isLaw (env 90)) (hd_X5_isLaw : d_X5_isLaw + 1 ≤ d) {d_X5_keep : Nat} (h_X5_keep : CM l SH E yX5_keep cX5_keep 2 (none) d_X5_keep (env 70)) (hd_X5_keep : d_X5_keep + 1 ≤ d) : ∀ q ∈ T_X5_tell E env, SS p l e R s m args below meth c cells slots Q D C A ad SH 3 cX5_tell (some .boolean) q.1 q.2 := by
  unfold T_X5_tell
  refine List.forall_mem_cons.mpr ⟨s_iload_n (pc := 0) X (i := 1) (by decide +kernel) rfl, ?_⟩
  refine List.forall_mem_cons.mpr ⟨s_iconst (pc := 1) X (n := 0) (by decide +kernel) (by decide), ?_⟩
  refine List.forall_mem_cons.mpr ⟨s_iconst (pc := 2) X (n := 3) (by decide +kernel) (by decide), ?_⟩
  refine List.forall_mem_cons.mpr ⟨s_callS (pc := 3) X (idx := 29) (by decide +kernel) h_X5_isIn lk_RX5_29 ls_X5_isIn li_RX5 lc_X5_isIn hy_X5_isIn ⟨Nat.le_trans hd_X5_isIn hR.1, Nat.le_trans (by have := hd_X5_isIn; omega) hR.2⟩ hcs, ?_⟩
  refine List.forall_mem_cons.mpr ⟨s_eq0 (pc := 6) X (off := 15) (by decide +kernel) (by decide), ?_⟩
  refine List.forall_mem_cons.mpr ⟨s_iload_n (pc := 9) X (i := 2) (by decide +kernel) rfl, ?_⟩
  refine List.forall_mem_cons.mpr ⟨s_eq0 (pc := 10) X (off := 13) (by decide +kernel) (by decide), ?_⟩
  refine List.forall_mem_cons.mpr ⟨s_aload_n (pc := 13) X (i := 0) (by decide +kernel) rfl, ?_⟩
  refine List.forall_mem_cons.mpr ⟨s_iload_n (pc := 14) X (i := 2) (by decide +kernel) rfl, ?_⟩
  refine List.forall_mem_cons.mpr ⟨s_callV (pc := 15) X (idx := 86) (by decide +kernel) h_X5_isLaw rfl lk_RX5_86 ls_X5_isLaw lz_X5_isLaw li_RX5 lc_X5_isLaw hv_X5_isLaw ⟨Nat.le_trans hd_X5_isLaw hR.1, Nat.le_trans (by have := hd_X5_isLaw; omega) hR.2⟩ hcs, ?_⟩
  refine List.forall_mem_cons.mpr ⟨s_ne0 (pc := 18) X (off := 5) (by decide +kernel) (by decide), ?_⟩
  refine List.forall_mem_cons.mpr ⟨s_iconst (pc := 21) X (n := 0) (by decide +kernel) (by decide), ?_⟩
  refine List.forall_mem_cons.mpr ⟨s_retZ (pc := 22) (by decide +kernel), ?_⟩
  refine List.forall_mem_cons.mpr ⟨s_aload_n (pc := 23) X (i := 0) (by decide +kernel) rfl, ?_⟩
  refine List.forall_mem_cons.mpr ⟨s_callV (pc := 24) X (idx := 45) (by decide +kernel) h_X5_keep rfl lk_RX5_45 ls_X5_keep lz_X5_keep li_RX5 lc_X5_keep hv_X5_keep ⟨Nat.le_trans hd_X5_keep hR.1, Nat.le_trans (by have := hd_X5_keep; omega) hR.2⟩ hcs, ?_⟩
  refine List.forall_mem_cons.mpr ⟨s_aload_n (pc := 27) X (i := 0) (by decide +kernel) rfl, ?_⟩
  refine List.forall_mem_cons.mpr ⟨s_getR (pc := 28) X (idx := 7) (by decide +kernel) inTX5 rfl (by decide) lk_RX5_7 rfl, ?_⟩
  refine List.forall_mem_cons.mpr ⟨s_sipush (pc := 31) X (n := 129) (by decide +kernel) (by decide), ?_⟩
  refine List.forall_mem_cons.mpr ⟨s_iload_n (pc := 34) X (i := 1) (by decide +kernel) rfl, ?_⟩
  refine List.forall_mem_cons.mpr ⟨s_iadd (pc := 35) X (by decide +kernel), ?_⟩
  refine List.forall_mem_cons.mpr ⟨s_iload_n (pc := 36) X (i := 2) (by decide +kernel) rfl, ?_⟩
  refine List.forall_mem_cons.mpr ⟨s_iast (pc := 37) X (by decide +kernel), ?_⟩
  refine List.forall_mem_cons.mpr ⟨s_iconst (pc := 38) X (n := 1) (by decide +kernel) (by decide), ?_⟩
  refine List.forall_mem_cons.mpr ⟨s_retZ (pc := 39) (by decide +kernel), ?_⟩
  exact fun _ h => absurd h List.not_mem_nil
def T_X5_told (E : Ex) (env : Nat → Mf) : List (Nat × Stq) := [(0, o_il 1 1),
  (1, o_ic 2 (0)),
  (2, o_ic 3 (3)),
  (3, o_call env 6 64 3),
  (6, o_eq0 22 9),
  (9, o_al 10 0),
  (10, o_gR SH 13 5 0),
  (13, o_ic 16 (129)),
  (16, o_il 17 1),
  (17, o_b2 18 (fun x y => x + y)),
  (18, o_ia SH E 19),
  (19, o_goto 23),
  (22, o_ic 23 (-1)),
  (23, o_ret)]
set_option maxRecDepth 100000 in
set_option maxHeartbeats 4000000 in
theorem ts_X5_told {p : Program} {l : Launch} {e : Env} {R : Room} {s : State} {m : MethodId} {args : Array Value} {below : List Frame} {meth : Method} {c : Code} {cells slots : Nat} {Q : State → Prop} {D : va_G} {C : CI3} {A : Nat → Prop} {ad : Nat → Nat} {E : Ex} {env : Nat → Mf} {d : Nat} (X : Cx p R s m args c cX5_told 2 RX5 D C A ad SH E) (hR : d ≤ R.frames ∧ 100 * d ≤ R.locals) (hcs : cells ≤ R.cells ∧ slots ≤ R.slots) {d_X5_isIn : Nat} (h_X5_isIn : CM l SH E yX5_isIn cX5_isIn 3 (some .boolean) d_X5_isIn (env 64)) (hd_X5_isIn : d_X5_isIn + 1 ≤ d) : ∀ q ∈ T_X5_told E env, SS p l e R s m args below meth c cells slots Q D C A ad SH 2 cX5_told (some .int) q.1 q.2 := by
  unfold T_X5_told
  refine List.forall_mem_cons.mpr ⟨s_iload_n (pc := 0) X (i := 1) (by decide +kernel) rfl, ?_⟩
  refine List.forall_mem_cons.mpr ⟨s_iconst (pc := 1) X (n := 0) (by decide +kernel) (by decide), ?_⟩
  refine List.forall_mem_cons.mpr ⟨s_iconst (pc := 2) X (n := 3) (by decide +kernel) (by decide), ?_⟩
  refine List.forall_mem_cons.mpr ⟨s_callS (pc := 3) X (idx := 29) (by decide +kernel) h_X5_isIn lk_RX5_29 ls_X5_isIn li_RX5 lc_X5_isIn hy_X5_isIn ⟨Nat.le_trans hd_X5_isIn hR.1, Nat.le_trans (by have := hd_X5_isIn; omega) hR.2⟩ hcs, ?_⟩
  refine List.forall_mem_cons.mpr ⟨s_eq0 (pc := 6) X (off := 16) (by decide +kernel) (by decide), ?_⟩
  refine List.forall_mem_cons.mpr ⟨s_aload_n (pc := 9) X (i := 0) (by decide +kernel) rfl, ?_⟩
  refine List.forall_mem_cons.mpr ⟨s_getR (pc := 10) X (idx := 7) (by decide +kernel) inTX5 rfl (by decide) lk_RX5_7 rfl, ?_⟩
  refine List.forall_mem_cons.mpr ⟨s_sipush (pc := 13) X (n := 129) (by decide +kernel) (by decide), ?_⟩
  refine List.forall_mem_cons.mpr ⟨s_iload_n (pc := 16) X (i := 1) (by decide +kernel) rfl, ?_⟩
  refine List.forall_mem_cons.mpr ⟨s_iadd (pc := 17) X (by decide +kernel), ?_⟩
  refine List.forall_mem_cons.mpr ⟨s_iald (pc := 18) X (by decide +kernel), ?_⟩
  refine List.forall_mem_cons.mpr ⟨s_goto (pc := 19) X (off := 4) (by decide +kernel) (by decide), ?_⟩
  refine List.forall_mem_cons.mpr ⟨s_iconst (pc := 22) X (n := -1) (by decide +kernel) (by decide), ?_⟩
  refine List.forall_mem_cons.mpr ⟨s_ret (pc := 23) rfl (by decide +kernel), ?_⟩
  exact fun _ h => absurd h List.not_mem_nil
def T_X5_conflicts_0 (E : Ex) (env : Nat → Mf) : List (Nat × Stq) := [(0, o_ic 1 (0)),
  (1, o_is 2 1),
  (2, o_ic 3 (0)),
  (3, o_is 4 2),
  (4, o_il 5 2),
  (5, o_ic 7 (16)),
  (7, o_ge 23 10),
  (10, o_al 11 0),
  (11, o_gR SH 14 5 7),
  (14, o_il 15 2),
  (15, o_ic 16 (0)),
  (16, o_is_ SH 17),
  (17, o_inc 20 2 (1)),
  (20, o_goto 4),
  (23, o_ic 24 (0)),
  (24, o_is 25 2),
  (25, o_il 26 2),
  (26, o_ic 28 (16)),
  (28, o_ge 142 31),
  (31, o_il 32 2),
  (32, o_ic 33 (1)),
  (33, o_b2 34 (fun x y => x + y)),
  (34, o_is 35 3),
  (35, o_il 36 3),
  (36, o_ic 38 (16)),
  (38, o_ge 136 41),
  (41, o_ic 42 (0)),
  (42, o_is 44 4),
  (44, o_ic 45 (0)),
  (45, o_is 47 5),
  (47, o_il 49 5),
  (49, o_ic 50 (4)),
  (50, o_ge 95 53),
  (53, o_il 55 4),
  (55, o_ne0 82 58),
  (58, o_al 59 0),
  (59, o_il 61 5),
  (61, o_callV SH env 64 115 1 5),
  (64, o_eq0 86 67),
  (67, o_al 68 0)]
set_option maxRecDepth 100000 in
set_option maxHeartbeats 4000000 in
theorem ts_X5_conflicts_0 {p : Program} {l : Launch} {e : Env} {R : Room} {s : State} {m : MethodId} {args : Array Value} {below : List Frame} {meth : Method} {c : Code} {cells slots : Nat} {Q : State → Prop} {D : va_G} {C : CI3} {A : Nat → Prop} {ad : Nat → Nat} {E : Ex} {env : Nat → Mf} {d : Nat} (X : Cx p R s m args c cX5_conflicts 6 RX5 D C A ad SH E) (hR : d ≤ R.frames ∧ 100 * d ≤ R.locals) (hcs : cells ≤ R.cells ∧ slots ≤ R.slots) {d_X5_told : Nat} (h_X5_told : CM l SH E yX5_told cX5_told 2 (some .int) d_X5_told (env 115)) (hd_X5_told : d_X5_told + 1 ≤ d) {d_X5_breaks : Nat} (h_X5_breaks : CM l SH E yX5_breaks cX5_breaks 4 (some .boolean) d_X5_breaks (env 95)) (hd_X5_breaks : d_X5_breaks + 1 ≤ d) : ∀ q ∈ T_X5_conflicts_0 E env, SS p l e R s m args below meth c cells slots Q D C A ad SH 6 cX5_conflicts (some .int) q.1 q.2 := by
  unfold T_X5_conflicts_0
  refine List.forall_mem_cons.mpr ⟨s_iconst (pc := 0) X (n := 0) (by decide +kernel) (by decide), ?_⟩
  refine List.forall_mem_cons.mpr ⟨s_istore_n (pc := 1) X (i := 1) (by decide +kernel) rfl (by decide), ?_⟩
  refine List.forall_mem_cons.mpr ⟨s_iconst (pc := 2) X (n := 0) (by decide +kernel) (by decide), ?_⟩
  refine List.forall_mem_cons.mpr ⟨s_istore_n (pc := 3) X (i := 2) (by decide +kernel) rfl (by decide), ?_⟩
  refine List.forall_mem_cons.mpr ⟨s_iload_n (pc := 4) X (i := 2) (by decide +kernel) rfl, ?_⟩
  refine List.forall_mem_cons.mpr ⟨s_bipush (pc := 5) X (n := 16) (by decide +kernel) (by decide), ?_⟩
  refine List.forall_mem_cons.mpr ⟨s_ge (pc := 7) X (off := 16) (by decide +kernel) (by decide), ?_⟩
  refine List.forall_mem_cons.mpr ⟨s_aload_n (pc := 10) X (i := 0) (by decide +kernel) rfl, ?_⟩
  refine List.forall_mem_cons.mpr ⟨s_getR (pc := 11) X (idx := 26) (by decide +kernel) inTX5 rfl (by decide) lk_RX5_26 rfl, ?_⟩
  refine List.forall_mem_cons.mpr ⟨s_iload_n (pc := 14) X (i := 2) (by decide +kernel) rfl, ?_⟩
  refine List.forall_mem_cons.mpr ⟨s_iconst (pc := 15) X (n := 0) (by decide +kernel) (by decide), ?_⟩
  refine List.forall_mem_cons.mpr ⟨s_iast (pc := 16) X (by decide +kernel), ?_⟩
  refine List.forall_mem_cons.mpr ⟨s_iinc (pc := 17) X (n := 1) (by decide +kernel) (by decide) (by decide), ?_⟩
  refine List.forall_mem_cons.mpr ⟨s_goto (pc := 20) X (off := -16) (by decide +kernel) (by decide), ?_⟩
  refine List.forall_mem_cons.mpr ⟨s_iconst (pc := 23) X (n := 0) (by decide +kernel) (by decide), ?_⟩
  refine List.forall_mem_cons.mpr ⟨s_istore_n (pc := 24) X (i := 2) (by decide +kernel) rfl (by decide), ?_⟩
  refine List.forall_mem_cons.mpr ⟨s_iload_n (pc := 25) X (i := 2) (by decide +kernel) rfl, ?_⟩
  refine List.forall_mem_cons.mpr ⟨s_bipush (pc := 26) X (n := 16) (by decide +kernel) (by decide), ?_⟩
  refine List.forall_mem_cons.mpr ⟨s_ge (pc := 28) X (off := 114) (by decide +kernel) (by decide), ?_⟩
  refine List.forall_mem_cons.mpr ⟨s_iload_n (pc := 31) X (i := 2) (by decide +kernel) rfl, ?_⟩
  refine List.forall_mem_cons.mpr ⟨s_iconst (pc := 32) X (n := 1) (by decide +kernel) (by decide), ?_⟩
  refine List.forall_mem_cons.mpr ⟨s_iadd (pc := 33) X (by decide +kernel), ?_⟩
  refine List.forall_mem_cons.mpr ⟨s_istore_n (pc := 34) X (i := 3) (by decide +kernel) rfl (by decide), ?_⟩
  refine List.forall_mem_cons.mpr ⟨s_iload_n (pc := 35) X (i := 3) (by decide +kernel) rfl, ?_⟩
  refine List.forall_mem_cons.mpr ⟨s_bipush (pc := 36) X (n := 16) (by decide +kernel) (by decide), ?_⟩
  refine List.forall_mem_cons.mpr ⟨s_ge (pc := 38) X (off := 98) (by decide +kernel) (by decide), ?_⟩
  refine List.forall_mem_cons.mpr ⟨s_iconst (pc := 41) X (n := 0) (by decide +kernel) (by decide), ?_⟩
  refine List.forall_mem_cons.mpr ⟨s_istore (pc := 42) X (by decide +kernel) (by decide), ?_⟩
  refine List.forall_mem_cons.mpr ⟨s_iconst (pc := 44) X (n := 0) (by decide +kernel) (by decide), ?_⟩
  refine List.forall_mem_cons.mpr ⟨s_istore (pc := 45) X (by decide +kernel) (by decide), ?_⟩
  refine List.forall_mem_cons.mpr ⟨s_iload (pc := 47) X (by decide +kernel), ?_⟩
  refine List.forall_mem_cons.mpr ⟨s_iconst (pc := 49) X (n := 4) (by decide +kernel) (by decide), ?_⟩
  refine List.forall_mem_cons.mpr ⟨s_ge (pc := 50) X (off := 45) (by decide +kernel) (by decide), ?_⟩
  refine List.forall_mem_cons.mpr ⟨s_iload (pc := 53) X (by decide +kernel), ?_⟩
  refine List.forall_mem_cons.mpr ⟨s_ne0 (pc := 55) X (off := 27) (by decide +kernel) (by decide), ?_⟩
  refine List.forall_mem_cons.mpr ⟨s_aload_n (pc := 58) X (i := 0) (by decide +kernel) rfl, ?_⟩
  refine List.forall_mem_cons.mpr ⟨s_iload (pc := 59) X (by decide +kernel), ?_⟩
  refine List.forall_mem_cons.mpr ⟨s_callV (pc := 61) X (idx := 128) (by decide +kernel) h_X5_told rfl lk_RX5_128 ls_X5_told lz_X5_told li_RX5 lc_X5_told hv_X5_told ⟨Nat.le_trans hd_X5_told hR.1, Nat.le_trans (by have := hd_X5_told; omega) hR.2⟩ hcs, ?_⟩
  refine List.forall_mem_cons.mpr ⟨s_eq0 (pc := 64) X (off := 22) (by decide +kernel) (by decide), ?_⟩
  refine List.forall_mem_cons.mpr ⟨s_aload_n (pc := 67) X (i := 0) (by decide +kernel) rfl, ?_⟩
  exact fun _ h => absurd h List.not_mem_nil
def T_X5_conflicts_1 (E : Ex) (env : Nat → Mf) : List (Nat × Stq) := [(68, o_al 69 0),
  (69, o_il 71 5),
  (71, o_callV SH env 74 115 1 5),
  (74, o_il 75 2),
  (75, o_il 76 3),
  (76, o_callV SH env 79 95 3 5),
  (79, o_eq0 86 82),
  (82, o_ic 83 (1)),
  (83, o_goto 87),
  (86, o_ic 87 (0)),
  (87, o_is 89 4),
  (89, o_inc 92 5 (1)),
  (92, o_goto 47),
  (95, o_il 97 4),
  (97, o_ne0 103 100),
  (100, o_goto 130),
  (103, o_al 104 0),
  (104, o_gR SH 107 5 7),
  (107, o_il 108 2),
  (108, o_dup2 109),
  (109, o_ia SH E 110),
  (110, o_ic 111 (1)),
  (111, o_il 112 3),
  (112, o_b2 113 (fun x y => x <<< (y &&& 31))),
  (113, o_b2 114 (fun x y => x ||| y)),
  (114, o_is_ SH 115),
  (115, o_al 116 0),
  (116, o_gR SH 119 5 7),
  (119, o_il 120 3),
  (120, o_dup2 121),
  (121, o_ia SH E 122),
  (122, o_ic 123 (1)),
  (123, o_il 124 2),
  (124, o_b2 125 (fun x y => x <<< (y &&& 31))),
  (125, o_b2 126 (fun x y => x ||| y)),
  (126, o_is_ SH 127),
  (127, o_inc 130 1 (1)),
  (130, o_inc 133 3 (1)),
  (133, o_goto 35),
  (136, o_inc 139 2 (1))]
set_option maxRecDepth 100000 in
set_option maxHeartbeats 4000000 in
theorem ts_X5_conflicts_1 {p : Program} {l : Launch} {e : Env} {R : Room} {s : State} {m : MethodId} {args : Array Value} {below : List Frame} {meth : Method} {c : Code} {cells slots : Nat} {Q : State → Prop} {D : va_G} {C : CI3} {A : Nat → Prop} {ad : Nat → Nat} {E : Ex} {env : Nat → Mf} {d : Nat} (X : Cx p R s m args c cX5_conflicts 6 RX5 D C A ad SH E) (hR : d ≤ R.frames ∧ 100 * d ≤ R.locals) (hcs : cells ≤ R.cells ∧ slots ≤ R.slots) {d_X5_told : Nat} (h_X5_told : CM l SH E yX5_told cX5_told 2 (some .int) d_X5_told (env 115)) (hd_X5_told : d_X5_told + 1 ≤ d) {d_X5_breaks : Nat} (h_X5_breaks : CM l SH E yX5_breaks cX5_breaks 4 (some .boolean) d_X5_breaks (env 95)) (hd_X5_breaks : d_X5_breaks + 1 ≤ d) : ∀ q ∈ T_X5_conflicts_1 E env, SS p l e R s m args below meth c cells slots Q D C A ad SH 6 cX5_conflicts (some .int) q.1 q.2 := by
  unfold T_X5_conflicts_1
  refine List.forall_mem_cons.mpr ⟨s_aload_n (pc := 68) X (i := 0) (by decide +kernel) rfl, ?_⟩
  refine List.forall_mem_cons.mpr ⟨s_iload (pc := 69) X (by decide +kernel), ?_⟩
  refine List.forall_mem_cons.mpr ⟨s_callV (pc := 71) X (idx := 128) (by decide +kernel) h_X5_told rfl lk_RX5_128 ls_X5_told lz_X5_told li_RX5 lc_X5_told hv_X5_told ⟨Nat.le_trans hd_X5_told hR.1, Nat.le_trans (by have := hd_X5_told; omega) hR.2⟩ hcs, ?_⟩
  refine List.forall_mem_cons.mpr ⟨s_iload_n (pc := 74) X (i := 2) (by decide +kernel) rfl, ?_⟩
  refine List.forall_mem_cons.mpr ⟨s_iload_n (pc := 75) X (i := 3) (by decide +kernel) rfl, ?_⟩
  refine List.forall_mem_cons.mpr ⟨s_callV (pc := 76) X (idx := 95) (by decide +kernel) h_X5_breaks rfl lk_RX5_95 ls_X5_breaks lz_X5_breaks li_RX5 lc_X5_breaks hv_X5_breaks ⟨Nat.le_trans hd_X5_breaks hR.1, Nat.le_trans (by have := hd_X5_breaks; omega) hR.2⟩ hcs, ?_⟩
  refine List.forall_mem_cons.mpr ⟨s_eq0 (pc := 79) X (off := 7) (by decide +kernel) (by decide), ?_⟩
  refine List.forall_mem_cons.mpr ⟨s_iconst (pc := 82) X (n := 1) (by decide +kernel) (by decide), ?_⟩
  refine List.forall_mem_cons.mpr ⟨s_goto (pc := 83) X (off := 4) (by decide +kernel) (by decide), ?_⟩
  refine List.forall_mem_cons.mpr ⟨s_iconst (pc := 86) X (n := 0) (by decide +kernel) (by decide), ?_⟩
  refine List.forall_mem_cons.mpr ⟨s_istore (pc := 87) X (by decide +kernel) (by decide), ?_⟩
  refine List.forall_mem_cons.mpr ⟨s_iinc (pc := 89) X (n := 1) (by decide +kernel) (by decide) (by decide), ?_⟩
  refine List.forall_mem_cons.mpr ⟨s_goto (pc := 92) X (off := -45) (by decide +kernel) (by decide), ?_⟩
  refine List.forall_mem_cons.mpr ⟨s_iload (pc := 95) X (by decide +kernel), ?_⟩
  refine List.forall_mem_cons.mpr ⟨s_ne0 (pc := 97) X (off := 6) (by decide +kernel) (by decide), ?_⟩
  refine List.forall_mem_cons.mpr ⟨s_goto (pc := 100) X (off := 30) (by decide +kernel) (by decide), ?_⟩
  refine List.forall_mem_cons.mpr ⟨s_aload_n (pc := 103) X (i := 0) (by decide +kernel) rfl, ?_⟩
  refine List.forall_mem_cons.mpr ⟨s_getR (pc := 104) X (idx := 26) (by decide +kernel) inTX5 rfl (by decide) lk_RX5_26 rfl, ?_⟩
  refine List.forall_mem_cons.mpr ⟨s_iload_n (pc := 107) X (i := 2) (by decide +kernel) rfl, ?_⟩
  refine List.forall_mem_cons.mpr ⟨s_dup2 (pc := 108) X (by decide +kernel), ?_⟩
  refine List.forall_mem_cons.mpr ⟨s_iald (pc := 109) X (by decide +kernel), ?_⟩
  refine List.forall_mem_cons.mpr ⟨s_iconst (pc := 110) X (n := 1) (by decide +kernel) (by decide), ?_⟩
  refine List.forall_mem_cons.mpr ⟨s_iload_n (pc := 111) X (i := 3) (by decide +kernel) rfl, ?_⟩
  refine List.forall_mem_cons.mpr ⟨s_ishl (pc := 112) X (by decide +kernel), ?_⟩
  refine List.forall_mem_cons.mpr ⟨s_ior (pc := 113) X (by decide +kernel), ?_⟩
  refine List.forall_mem_cons.mpr ⟨s_iast (pc := 114) X (by decide +kernel), ?_⟩
  refine List.forall_mem_cons.mpr ⟨s_aload_n (pc := 115) X (i := 0) (by decide +kernel) rfl, ?_⟩
  refine List.forall_mem_cons.mpr ⟨s_getR (pc := 116) X (idx := 26) (by decide +kernel) inTX5 rfl (by decide) lk_RX5_26 rfl, ?_⟩
  refine List.forall_mem_cons.mpr ⟨s_iload_n (pc := 119) X (i := 3) (by decide +kernel) rfl, ?_⟩
  refine List.forall_mem_cons.mpr ⟨s_dup2 (pc := 120) X (by decide +kernel), ?_⟩
  refine List.forall_mem_cons.mpr ⟨s_iald (pc := 121) X (by decide +kernel), ?_⟩
  refine List.forall_mem_cons.mpr ⟨s_iconst (pc := 122) X (n := 1) (by decide +kernel) (by decide), ?_⟩
  refine List.forall_mem_cons.mpr ⟨s_iload_n (pc := 123) X (i := 2) (by decide +kernel) rfl, ?_⟩
  refine List.forall_mem_cons.mpr ⟨s_ishl (pc := 124) X (by decide +kernel), ?_⟩
  refine List.forall_mem_cons.mpr ⟨s_ior (pc := 125) X (by decide +kernel), ?_⟩
  refine List.forall_mem_cons.mpr ⟨s_iast (pc := 126) X (by decide +kernel), ?_⟩
  refine List.forall_mem_cons.mpr ⟨s_iinc (pc := 127) X (n := 1) (by decide +kernel) (by decide) (by decide), ?_⟩
  refine List.forall_mem_cons.mpr ⟨s_iinc (pc := 130) X (n := 1) (by decide +kernel) (by decide) (by decide), ?_⟩
  refine List.forall_mem_cons.mpr ⟨s_goto (pc := 133) X (off := -98) (by decide +kernel) (by decide), ?_⟩
  refine List.forall_mem_cons.mpr ⟨s_iinc (pc := 136) X (n := 1) (by decide +kernel) (by decide) (by decide), ?_⟩
  exact fun _ h => absurd h List.not_mem_nil
def T_X5_conflicts_2 (E : Ex) (env : Nat → Mf) : List (Nat × Stq) := [(139, o_goto 25),
  (142, o_il 143 1),
  (143, o_ret)]
set_option maxRecDepth 100000 in
set_option maxHeartbeats 4000000 in
theorem ts_X5_conflicts_2 {p : Program} {l : Launch} {e : Env} {R : Room} {s : State} {m : MethodId} {args : Array Value} {below : List Frame} {meth : Method} {c : Code} {cells slots : Nat} {Q : State → Prop} {D : va_G} {C : CI3} {A : Nat → Prop} {ad : Nat → Nat} {E : Ex} {env : Nat → Mf} {d : Nat} (X : Cx p R s m args c cX5_conflicts 6 RX5 D C A ad SH E) (hR : d ≤ R.frames ∧ 100 * d ≤ R.locals) (hcs : cells ≤ R.cells ∧ slots ≤ R.slots) {d_X5_told : Nat} (h_X5_told : CM l SH E yX5_told cX5_told 2 (some .int) d_X5_told (env 115)) (hd_X5_told : d_X5_told + 1 ≤ d) {d_X5_breaks : Nat} (h_X5_breaks : CM l SH E yX5_breaks cX5_breaks 4 (some .boolean) d_X5_breaks (env 95)) (hd_X5_breaks : d_X5_breaks + 1 ≤ d) : ∀ q ∈ T_X5_conflicts_2 E env, SS p l e R s m args below meth c cells slots Q D C A ad SH 6 cX5_conflicts (some .int) q.1 q.2 := by
  unfold T_X5_conflicts_2
  refine List.forall_mem_cons.mpr ⟨s_goto (pc := 139) X (off := -114) (by decide +kernel) (by decide), ?_⟩
  refine List.forall_mem_cons.mpr ⟨s_iload_n (pc := 142) X (i := 1) (by decide +kernel) rfl, ?_⟩
  refine List.forall_mem_cons.mpr ⟨s_ret (pc := 143) rfl (by decide +kernel), ?_⟩
  exact fun _ h => absurd h List.not_mem_nil
def T_X5_conflicts (E : Ex) (env : Nat → Mf) : List (Nat × Stq) := T_X5_conflicts_0 E env ++ (T_X5_conflicts_1 E env ++ (T_X5_conflicts_2 E env))
theorem ts_X5_conflicts {p : Program} {l : Launch} {e : Env} {R : Room} {s : State} {m : MethodId} {args : Array Value} {below : List Frame} {meth : Method} {c : Code} {cells slots : Nat} {Q : State → Prop} {D : va_G} {C : CI3} {A : Nat → Prop} {ad : Nat → Nat} {E : Ex} {env : Nat → Mf} {d : Nat} (X : Cx p R s m args c cX5_conflicts 6 RX5 D C A ad SH E) (hR : d ≤ R.frames ∧ 100 * d ≤ R.locals) (hcs : cells ≤ R.cells ∧ slots ≤ R.slots) {d_X5_told : Nat} (h_X5_told : CM l SH E yX5_told cX5_told 2 (some .int) d_X5_told (env 115)) (hd_X5_told : d_X5_told + 1 ≤ d) {d_X5_breaks : Nat} (h_X5_breaks : CM l SH E yX5_breaks cX5_breaks 4 (some .boolean) d_X5_breaks (env 95)) (hd_X5_breaks : d_X5_breaks + 1 ≤ d) : ∀ q ∈ T_X5_conflicts E env, SS p l e R s m args below meth c cells slots Q D C A ad SH 6 cX5_conflicts (some .int) q.1 q.2 := List.forall_mem_append.mpr ⟨ts_X5_conflicts_0 X hR hcs h_X5_told hd_X5_told h_X5_breaks hd_X5_breaks, List.forall_mem_append.mpr ⟨ts_X5_conflicts_1 X hR hcs h_X5_told hd_X5_told h_X5_breaks hd_X5_breaks, ts_X5_conflicts_2 X hR hcs h_X5_told hd_X5_told h_X5_breaks hd_X5_breaks⟩⟩
def T_X5_mend_0 (E : Ex) (env : Nat → Mf) : List (Nat × Stq) := [(0, o_il 1 1),
  (1, o_ic 2 (0)),
  (2, o_ic 3 (2)),
  (3, o_call env 6 64 3),
  (6, o_ne0 11 9),
  (9, o_ic 10 (-1)),
  (10, o_ret),
  (11, o_al 12 0),
  (12, o_callV SH env 15 116 0 5),
  (15, o_is 16 2),
  (16, o_il 17 1),
  (17, o_ic 18 (2)),
  (18, o_ne 23 21),
  (21, o_il 22 2),
  (22, o_ret),
  (23, o_ic 24 (0)),
  (24, o_is 25 3),
  (25, o_ic 26 (0)),
  (26, o_is 28 4),
  (28, o_il 30 4),
  (30, o_ic 32 (16)),
  (32, o_ge 54 35),
  (35, o_il 36 3),
  (36, o_al 37 0),
  (37, o_il 39 4),
  (39, o_ic 40 (0)),
  (40, o_callV SH env 43 66 2 5),
  (43, o_il 45 4),
  (45, o_b2 46 (fun x y => x <<< (y &&& 31))),
  (46, o_b2 47 (fun x y => x ||| y)),
  (47, o_is 48 3),
  (48, o_inc 51 4 (1)),
  (51, o_goto 28),
  (54, o_ic 55 (-1)),
  (55, o_is 57 4),
  (57, o_ic 58 (0)),
  (58, o_is 60 5),
  (60, o_ic 61 (0)),
  (61, o_is 63 6),
  (63, o_il 65 6)]
set_option maxRecDepth 100000 in
set_option maxHeartbeats 4000000 in
theorem ts_X5_mend_0 {p : Program} {l : Launch} {e : Env} {R : Room} {s : State} {m : MethodId} {args : Array Value} {below : List Frame} {meth : Method} {c : Code} {cells slots : Nat} {Q : State → Prop} {D : va_G} {C : CI3} {A : Nat → Prop} {ad : Nat → Nat} {E : Ex} {env : Nat → Mf} {d : Nat} (X : Cx p R s m args c cX5_mend 10 RX5 D C A ad SH E) (hR : d ≤ R.frames ∧ 100 * d ≤ R.locals) (hcs : cells ≤ R.cells ∧ slots ≤ R.slots) {d_X5_isIn : Nat} (h_X5_isIn : CM l SH E yX5_isIn cX5_isIn 3 (some .boolean) d_X5_isIn (env 64)) (hd_X5_isIn : d_X5_isIn + 1 ≤ d) {d_X5_conflicts : Nat} (h_X5_conflicts : CM l SH E yX5_conflicts cX5_conflicts 6 (some .int) d_X5_conflicts (env 116)) (hd_X5_conflicts : d_X5_conflicts + 1 ≤ d) {d_X5_get : Nat} (h_X5_get : CM l SH E yX5_get cX5_get 3 (some .int) d_X5_get (env 66)) (hd_X5_get : d_X5_get + 1 ≤ d) : ∀ q ∈ T_X5_mend_0 E env, SS p l e R s m args below meth c cells slots Q D C A ad SH 10 cX5_mend (some .int) q.1 q.2 := by
  unfold T_X5_mend_0
  refine List.forall_mem_cons.mpr ⟨s_iload_n (pc := 0) X (i := 1) (by decide +kernel) rfl, ?_⟩
  refine List.forall_mem_cons.mpr ⟨s_iconst (pc := 1) X (n := 0) (by decide +kernel) (by decide), ?_⟩
  refine List.forall_mem_cons.mpr ⟨s_iconst (pc := 2) X (n := 2) (by decide +kernel) (by decide), ?_⟩
  refine List.forall_mem_cons.mpr ⟨s_callS (pc := 3) X (idx := 29) (by decide +kernel) h_X5_isIn lk_RX5_29 ls_X5_isIn li_RX5 lc_X5_isIn hy_X5_isIn ⟨Nat.le_trans hd_X5_isIn hR.1, Nat.le_trans (by have := hd_X5_isIn; omega) hR.2⟩ hcs, ?_⟩
  refine List.forall_mem_cons.mpr ⟨s_ne0 (pc := 6) X (off := 5) (by decide +kernel) (by decide), ?_⟩
  refine List.forall_mem_cons.mpr ⟨s_iconst (pc := 9) X (n := -1) (by decide +kernel) (by decide), ?_⟩
  refine List.forall_mem_cons.mpr ⟨s_ret (pc := 10) rfl (by decide +kernel), ?_⟩
  refine List.forall_mem_cons.mpr ⟨s_aload_n (pc := 11) X (i := 0) (by decide +kernel) rfl, ?_⟩
  refine List.forall_mem_cons.mpr ⟨s_callV (pc := 12) X (idx := 131) (by decide +kernel) h_X5_conflicts rfl lk_RX5_131 ls_X5_conflicts lz_X5_conflicts li_RX5 lc_X5_conflicts hv_X5_conflicts ⟨Nat.le_trans hd_X5_conflicts hR.1, Nat.le_trans (by have := hd_X5_conflicts; omega) hR.2⟩ hcs, ?_⟩
  refine List.forall_mem_cons.mpr ⟨s_istore_n (pc := 15) X (i := 2) (by decide +kernel) rfl (by decide), ?_⟩
  refine List.forall_mem_cons.mpr ⟨s_iload_n (pc := 16) X (i := 1) (by decide +kernel) rfl, ?_⟩
  refine List.forall_mem_cons.mpr ⟨s_iconst (pc := 17) X (n := 2) (by decide +kernel) (by decide), ?_⟩
  refine List.forall_mem_cons.mpr ⟨s_ne (pc := 18) X (off := 5) (by decide +kernel) (by decide), ?_⟩
  refine List.forall_mem_cons.mpr ⟨s_iload_n (pc := 21) X (i := 2) (by decide +kernel) rfl, ?_⟩
  refine List.forall_mem_cons.mpr ⟨s_ret (pc := 22) rfl (by decide +kernel), ?_⟩
  refine List.forall_mem_cons.mpr ⟨s_iconst (pc := 23) X (n := 0) (by decide +kernel) (by decide), ?_⟩
  refine List.forall_mem_cons.mpr ⟨s_istore_n (pc := 24) X (i := 3) (by decide +kernel) rfl (by decide), ?_⟩
  refine List.forall_mem_cons.mpr ⟨s_iconst (pc := 25) X (n := 0) (by decide +kernel) (by decide), ?_⟩
  refine List.forall_mem_cons.mpr ⟨s_istore (pc := 26) X (by decide +kernel) (by decide), ?_⟩
  refine List.forall_mem_cons.mpr ⟨s_iload (pc := 28) X (by decide +kernel), ?_⟩
  refine List.forall_mem_cons.mpr ⟨s_bipush (pc := 30) X (n := 16) (by decide +kernel) (by decide), ?_⟩
  refine List.forall_mem_cons.mpr ⟨s_ge (pc := 32) X (off := 22) (by decide +kernel) (by decide), ?_⟩
  refine List.forall_mem_cons.mpr ⟨s_iload_n (pc := 35) X (i := 3) (by decide +kernel) rfl, ?_⟩
  refine List.forall_mem_cons.mpr ⟨s_aload_n (pc := 36) X (i := 0) (by decide +kernel) rfl, ?_⟩
  refine List.forall_mem_cons.mpr ⟨s_iload (pc := 37) X (by decide +kernel), ?_⟩
  refine List.forall_mem_cons.mpr ⟨s_iconst (pc := 39) X (n := 0) (by decide +kernel) (by decide), ?_⟩
  refine List.forall_mem_cons.mpr ⟨s_callV (pc := 40) X (idx := 33) (by decide +kernel) h_X5_get rfl lk_RX5_33 ls_X5_get lz_X5_get li_RX5 lc_X5_get hv_X5_get ⟨Nat.le_trans hd_X5_get hR.1, Nat.le_trans (by have := hd_X5_get; omega) hR.2⟩ hcs, ?_⟩
  refine List.forall_mem_cons.mpr ⟨s_iload (pc := 43) X (by decide +kernel), ?_⟩
  refine List.forall_mem_cons.mpr ⟨s_ishl (pc := 45) X (by decide +kernel), ?_⟩
  refine List.forall_mem_cons.mpr ⟨s_ior (pc := 46) X (by decide +kernel), ?_⟩
  refine List.forall_mem_cons.mpr ⟨s_istore_n (pc := 47) X (i := 3) (by decide +kernel) rfl (by decide), ?_⟩
  refine List.forall_mem_cons.mpr ⟨s_iinc (pc := 48) X (n := 1) (by decide +kernel) (by decide) (by decide), ?_⟩
  refine List.forall_mem_cons.mpr ⟨s_goto (pc := 51) X (off := -23) (by decide +kernel) (by decide), ?_⟩
  refine List.forall_mem_cons.mpr ⟨s_iconst (pc := 54) X (n := -1) (by decide +kernel) (by decide), ?_⟩
  refine List.forall_mem_cons.mpr ⟨s_istore (pc := 55) X (by decide +kernel) (by decide), ?_⟩
  refine List.forall_mem_cons.mpr ⟨s_iconst (pc := 57) X (n := 0) (by decide +kernel) (by decide), ?_⟩
  refine List.forall_mem_cons.mpr ⟨s_istore (pc := 58) X (by decide +kernel) (by decide), ?_⟩
  refine List.forall_mem_cons.mpr ⟨s_iconst (pc := 60) X (n := 0) (by decide +kernel) (by decide), ?_⟩
  refine List.forall_mem_cons.mpr ⟨s_istore (pc := 61) X (by decide +kernel) (by decide), ?_⟩
  refine List.forall_mem_cons.mpr ⟨s_iload (pc := 63) X (by decide +kernel), ?_⟩
  exact fun _ h => absurd h List.not_mem_nil
def T_X5_mend_1 (E : Ex) (env : Nat → Mf) : List (Nat × Stq) := [(65, o_ic 67 (65536)),
  (67, o_ge 192 70),
  (70, o_il 72 6),
  (72, o_il 73 3),
  (73, o_ic 74 (-1)),
  (74, o_b2 75 (fun x y => x ^^^ y)),
  (75, o_b2 76 (fun x y => x &&& y)),
  (76, o_eq0 82 79),
  (79, o_goto 186),
  (82, o_ic 83 (0)),
  (83, o_is 85 7),
  (85, o_ic 86 (1)),
  (86, o_is 88 8),
  (88, o_ic 89 (0)),
  (89, o_is 91 9),
  (91, o_il 93 9),
  (93, o_ic 95 (16)),
  (95, o_ge 157 98),
  (98, o_il 100 6),
  (100, o_il 102 9),
  (102, o_b2 103 (fun x y => x >>> (y &&& 31))),
  (103, o_ic 104 (1)),
  (104, o_b2 105 (fun x y => x &&& y)),
  (105, o_ic 106 (1)),
  (106, o_ne 124 109),
  (109, o_il 111 7),
  (111, o_al 112 0),
  (112, o_il 114 9),
  (114, o_ic 115 (3)),
  (115, o_callV SH env 118 66 2 5),
  (118, o_b2 119 (fun x y => x + y)),
  (119, o_is 121 7),
  (121, o_goto 151),
  (124, o_il 126 8),
  (126, o_eq0 148 129),
  (129, o_al 130 0),
  (130, o_gR SH 133 5 7),
  (133, o_il 135 9),
  (135, o_ia SH E 136),
  (136, o_il 138 6)]
set_option maxRecDepth 100000 in
set_option maxHeartbeats 4000000 in
theorem ts_X5_mend_1 {p : Program} {l : Launch} {e : Env} {R : Room} {s : State} {m : MethodId} {args : Array Value} {below : List Frame} {meth : Method} {c : Code} {cells slots : Nat} {Q : State → Prop} {D : va_G} {C : CI3} {A : Nat → Prop} {ad : Nat → Nat} {E : Ex} {env : Nat → Mf} {d : Nat} (X : Cx p R s m args c cX5_mend 10 RX5 D C A ad SH E) (hR : d ≤ R.frames ∧ 100 * d ≤ R.locals) (hcs : cells ≤ R.cells ∧ slots ≤ R.slots) {d_X5_isIn : Nat} (h_X5_isIn : CM l SH E yX5_isIn cX5_isIn 3 (some .boolean) d_X5_isIn (env 64)) (hd_X5_isIn : d_X5_isIn + 1 ≤ d) {d_X5_conflicts : Nat} (h_X5_conflicts : CM l SH E yX5_conflicts cX5_conflicts 6 (some .int) d_X5_conflicts (env 116)) (hd_X5_conflicts : d_X5_conflicts + 1 ≤ d) {d_X5_get : Nat} (h_X5_get : CM l SH E yX5_get cX5_get 3 (some .int) d_X5_get (env 66)) (hd_X5_get : d_X5_get + 1 ≤ d) : ∀ q ∈ T_X5_mend_1 E env, SS p l e R s m args below meth c cells slots Q D C A ad SH 10 cX5_mend (some .int) q.1 q.2 := by
  unfold T_X5_mend_1
  refine List.forall_mem_cons.mpr ⟨s_ldc (pc := 65) X (i := 134) (by decide +kernel) lk_RX5_c134, ?_⟩
  refine List.forall_mem_cons.mpr ⟨s_ge (pc := 67) X (off := 125) (by decide +kernel) (by decide), ?_⟩
  refine List.forall_mem_cons.mpr ⟨s_iload (pc := 70) X (by decide +kernel), ?_⟩
  refine List.forall_mem_cons.mpr ⟨s_iload_n (pc := 72) X (i := 3) (by decide +kernel) rfl, ?_⟩
  refine List.forall_mem_cons.mpr ⟨s_iconst (pc := 73) X (n := -1) (by decide +kernel) (by decide), ?_⟩
  refine List.forall_mem_cons.mpr ⟨s_ixor (pc := 74) X (by decide +kernel), ?_⟩
  refine List.forall_mem_cons.mpr ⟨s_iand (pc := 75) X (by decide +kernel), ?_⟩
  refine List.forall_mem_cons.mpr ⟨s_eq0 (pc := 76) X (off := 6) (by decide +kernel) (by decide), ?_⟩
  refine List.forall_mem_cons.mpr ⟨s_goto (pc := 79) X (off := 107) (by decide +kernel) (by decide), ?_⟩
  refine List.forall_mem_cons.mpr ⟨s_iconst (pc := 82) X (n := 0) (by decide +kernel) (by decide), ?_⟩
  refine List.forall_mem_cons.mpr ⟨s_istore (pc := 83) X (by decide +kernel) (by decide), ?_⟩
  refine List.forall_mem_cons.mpr ⟨s_iconst (pc := 85) X (n := 1) (by decide +kernel) (by decide), ?_⟩
  refine List.forall_mem_cons.mpr ⟨s_istore (pc := 86) X (by decide +kernel) (by decide), ?_⟩
  refine List.forall_mem_cons.mpr ⟨s_iconst (pc := 88) X (n := 0) (by decide +kernel) (by decide), ?_⟩
  refine List.forall_mem_cons.mpr ⟨s_istore (pc := 89) X (by decide +kernel) (by decide), ?_⟩
  refine List.forall_mem_cons.mpr ⟨s_iload (pc := 91) X (by decide +kernel), ?_⟩
  refine List.forall_mem_cons.mpr ⟨s_bipush (pc := 93) X (n := 16) (by decide +kernel) (by decide), ?_⟩
  refine List.forall_mem_cons.mpr ⟨s_ge (pc := 95) X (off := 62) (by decide +kernel) (by decide), ?_⟩
  refine List.forall_mem_cons.mpr ⟨s_iload (pc := 98) X (by decide +kernel), ?_⟩
  refine List.forall_mem_cons.mpr ⟨s_iload (pc := 100) X (by decide +kernel), ?_⟩
  refine List.forall_mem_cons.mpr ⟨s_ishr (pc := 102) X (by decide +kernel), ?_⟩
  refine List.forall_mem_cons.mpr ⟨s_iconst (pc := 103) X (n := 1) (by decide +kernel) (by decide), ?_⟩
  refine List.forall_mem_cons.mpr ⟨s_iand (pc := 104) X (by decide +kernel), ?_⟩
  refine List.forall_mem_cons.mpr ⟨s_iconst (pc := 105) X (n := 1) (by decide +kernel) (by decide), ?_⟩
  refine List.forall_mem_cons.mpr ⟨s_ne (pc := 106) X (off := 18) (by decide +kernel) (by decide), ?_⟩
  refine List.forall_mem_cons.mpr ⟨s_iload (pc := 109) X (by decide +kernel), ?_⟩
  refine List.forall_mem_cons.mpr ⟨s_aload_n (pc := 111) X (i := 0) (by decide +kernel) rfl, ?_⟩
  refine List.forall_mem_cons.mpr ⟨s_iload (pc := 112) X (by decide +kernel), ?_⟩
  refine List.forall_mem_cons.mpr ⟨s_iconst (pc := 114) X (n := 3) (by decide +kernel) (by decide), ?_⟩
  refine List.forall_mem_cons.mpr ⟨s_callV (pc := 115) X (idx := 33) (by decide +kernel) h_X5_get rfl lk_RX5_33 ls_X5_get lz_X5_get li_RX5 lc_X5_get hv_X5_get ⟨Nat.le_trans hd_X5_get hR.1, Nat.le_trans (by have := hd_X5_get; omega) hR.2⟩ hcs, ?_⟩
  refine List.forall_mem_cons.mpr ⟨s_iadd (pc := 118) X (by decide +kernel), ?_⟩
  refine List.forall_mem_cons.mpr ⟨s_istore (pc := 119) X (by decide +kernel) (by decide), ?_⟩
  refine List.forall_mem_cons.mpr ⟨s_goto (pc := 121) X (off := 30) (by decide +kernel) (by decide), ?_⟩
  refine List.forall_mem_cons.mpr ⟨s_iload (pc := 124) X (by decide +kernel), ?_⟩
  refine List.forall_mem_cons.mpr ⟨s_eq0 (pc := 126) X (off := 22) (by decide +kernel) (by decide), ?_⟩
  refine List.forall_mem_cons.mpr ⟨s_aload_n (pc := 129) X (i := 0) (by decide +kernel) rfl, ?_⟩
  refine List.forall_mem_cons.mpr ⟨s_getR (pc := 130) X (idx := 26) (by decide +kernel) inTX5 rfl (by decide) lk_RX5_26 rfl, ?_⟩
  refine List.forall_mem_cons.mpr ⟨s_iload (pc := 133) X (by decide +kernel), ?_⟩
  refine List.forall_mem_cons.mpr ⟨s_iald (pc := 135) X (by decide +kernel), ?_⟩
  refine List.forall_mem_cons.mpr ⟨s_iload (pc := 136) X (by decide +kernel), ?_⟩
  exact fun _ h => absurd h List.not_mem_nil
def T_X5_mend_2 (E : Ex) (env : Nat → Mf) : List (Nat × Stq) := [(138, o_ic 139 (-1)),
  (139, o_b2 140 (fun x y => x ^^^ y)),
  (140, o_b2 141 (fun x y => x &&& y)),
  (141, o_ne0 148 144),
  (144, o_ic 145 (1)),
  (145, o_goto 149),
  (148, o_ic 149 (0)),
  (149, o_is 151 8),
  (151, o_inc 154 9 (1)),
  (154, o_goto 91),
  (157, o_il 159 8),
  (159, o_eq0 186 162),
  (162, o_il 164 4),
  (164, o_ic 165 (-1)),
  (165, o_eq 178 168),
  (168, o_il 170 7),
  (170, o_il 172 5),
  (172, o_lt 178 175),
  (175, o_goto 186),
  (178, o_il 180 6),
  (180, o_is 182 4),
  (182, o_il 184 7),
  (184, o_is 186 5),
  (186, o_inc 189 6 (1)),
  (189, o_goto 63),
  (192, o_il 193 1),
  (193, o_ne0 201 196),
  (196, o_il 198 5),
  (198, o_goto 203),
  (201, o_il 203 4),
  (203, o_ret)]
set_option maxRecDepth 100000 in
set_option maxHeartbeats 4000000 in
theorem ts_X5_mend_2 {p : Program} {l : Launch} {e : Env} {R : Room} {s : State} {m : MethodId} {args : Array Value} {below : List Frame} {meth : Method} {c : Code} {cells slots : Nat} {Q : State → Prop} {D : va_G} {C : CI3} {A : Nat → Prop} {ad : Nat → Nat} {E : Ex} {env : Nat → Mf} {d : Nat} (X : Cx p R s m args c cX5_mend 10 RX5 D C A ad SH E) (hR : d ≤ R.frames ∧ 100 * d ≤ R.locals) (hcs : cells ≤ R.cells ∧ slots ≤ R.slots) {d_X5_isIn : Nat} (h_X5_isIn : CM l SH E yX5_isIn cX5_isIn 3 (some .boolean) d_X5_isIn (env 64)) (hd_X5_isIn : d_X5_isIn + 1 ≤ d) {d_X5_conflicts : Nat} (h_X5_conflicts : CM l SH E yX5_conflicts cX5_conflicts 6 (some .int) d_X5_conflicts (env 116)) (hd_X5_conflicts : d_X5_conflicts + 1 ≤ d) {d_X5_get : Nat} (h_X5_get : CM l SH E yX5_get cX5_get 3 (some .int) d_X5_get (env 66)) (hd_X5_get : d_X5_get + 1 ≤ d) : ∀ q ∈ T_X5_mend_2 E env, SS p l e R s m args below meth c cells slots Q D C A ad SH 10 cX5_mend (some .int) q.1 q.2 := by
  unfold T_X5_mend_2
  refine List.forall_mem_cons.mpr ⟨s_iconst (pc := 138) X (n := -1) (by decide +kernel) (by decide), ?_⟩
  refine List.forall_mem_cons.mpr ⟨s_ixor (pc := 139) X (by decide +kernel), ?_⟩
  refine List.forall_mem_cons.mpr ⟨s_iand (pc := 140) X (by decide +kernel), ?_⟩
  refine List.forall_mem_cons.mpr ⟨s_ne0 (pc := 141) X (off := 7) (by decide +kernel) (by decide), ?_⟩
  refine List.forall_mem_cons.mpr ⟨s_iconst (pc := 144) X (n := 1) (by decide +kernel) (by decide), ?_⟩
  refine List.forall_mem_cons.mpr ⟨s_goto (pc := 145) X (off := 4) (by decide +kernel) (by decide), ?_⟩
  refine List.forall_mem_cons.mpr ⟨s_iconst (pc := 148) X (n := 0) (by decide +kernel) (by decide), ?_⟩
  refine List.forall_mem_cons.mpr ⟨s_istore (pc := 149) X (by decide +kernel) (by decide), ?_⟩
  refine List.forall_mem_cons.mpr ⟨s_iinc (pc := 151) X (n := 1) (by decide +kernel) (by decide) (by decide), ?_⟩
  refine List.forall_mem_cons.mpr ⟨s_goto (pc := 154) X (off := -63) (by decide +kernel) (by decide), ?_⟩
  refine List.forall_mem_cons.mpr ⟨s_iload (pc := 157) X (by decide +kernel), ?_⟩
  refine List.forall_mem_cons.mpr ⟨s_eq0 (pc := 159) X (off := 27) (by decide +kernel) (by decide), ?_⟩
  refine List.forall_mem_cons.mpr ⟨s_iload (pc := 162) X (by decide +kernel), ?_⟩
  refine List.forall_mem_cons.mpr ⟨s_iconst (pc := 164) X (n := -1) (by decide +kernel) (by decide), ?_⟩
  refine List.forall_mem_cons.mpr ⟨s_eq (pc := 165) X (off := 13) (by decide +kernel) (by decide), ?_⟩
  refine List.forall_mem_cons.mpr ⟨s_iload (pc := 168) X (by decide +kernel), ?_⟩
  refine List.forall_mem_cons.mpr ⟨s_iload (pc := 170) X (by decide +kernel), ?_⟩
  refine List.forall_mem_cons.mpr ⟨s_lt (pc := 172) X (off := 6) (by decide +kernel) (by decide), ?_⟩
  refine List.forall_mem_cons.mpr ⟨s_goto (pc := 175) X (off := 11) (by decide +kernel) (by decide), ?_⟩
  refine List.forall_mem_cons.mpr ⟨s_iload (pc := 178) X (by decide +kernel), ?_⟩
  refine List.forall_mem_cons.mpr ⟨s_istore (pc := 180) X (by decide +kernel) (by decide), ?_⟩
  refine List.forall_mem_cons.mpr ⟨s_iload (pc := 182) X (by decide +kernel), ?_⟩
  refine List.forall_mem_cons.mpr ⟨s_istore (pc := 184) X (by decide +kernel) (by decide), ?_⟩
  refine List.forall_mem_cons.mpr ⟨s_iinc (pc := 186) X (n := 1) (by decide +kernel) (by decide) (by decide), ?_⟩
  refine List.forall_mem_cons.mpr ⟨s_goto (pc := 189) X (off := -126) (by decide +kernel) (by decide), ?_⟩
  refine List.forall_mem_cons.mpr ⟨s_iload_n (pc := 192) X (i := 1) (by decide +kernel) rfl, ?_⟩
  refine List.forall_mem_cons.mpr ⟨s_ne0 (pc := 193) X (off := 8) (by decide +kernel) (by decide), ?_⟩
  refine List.forall_mem_cons.mpr ⟨s_iload (pc := 196) X (by decide +kernel), ?_⟩
  refine List.forall_mem_cons.mpr ⟨s_goto (pc := 198) X (off := 5) (by decide +kernel) (by decide), ?_⟩
  refine List.forall_mem_cons.mpr ⟨s_iload (pc := 201) X (by decide +kernel), ?_⟩
  refine List.forall_mem_cons.mpr ⟨s_ret (pc := 203) rfl (by decide +kernel), ?_⟩
  exact fun _ h => absurd h List.not_mem_nil
def T_X5_mend (E : Ex) (env : Nat → Mf) : List (Nat × Stq) := T_X5_mend_0 E env ++ (T_X5_mend_1 E env ++ (T_X5_mend_2 E env))
theorem ts_X5_mend {p : Program} {l : Launch} {e : Env} {R : Room} {s : State} {m : MethodId} {args : Array Value} {below : List Frame} {meth : Method} {c : Code} {cells slots : Nat} {Q : State → Prop} {D : va_G} {C : CI3} {A : Nat → Prop} {ad : Nat → Nat} {E : Ex} {env : Nat → Mf} {d : Nat} (X : Cx p R s m args c cX5_mend 10 RX5 D C A ad SH E) (hR : d ≤ R.frames ∧ 100 * d ≤ R.locals) (hcs : cells ≤ R.cells ∧ slots ≤ R.slots) {d_X5_isIn : Nat} (h_X5_isIn : CM l SH E yX5_isIn cX5_isIn 3 (some .boolean) d_X5_isIn (env 64)) (hd_X5_isIn : d_X5_isIn + 1 ≤ d) {d_X5_conflicts : Nat} (h_X5_conflicts : CM l SH E yX5_conflicts cX5_conflicts 6 (some .int) d_X5_conflicts (env 116)) (hd_X5_conflicts : d_X5_conflicts + 1 ≤ d) {d_X5_get : Nat} (h_X5_get : CM l SH E yX5_get cX5_get 3 (some .int) d_X5_get (env 66)) (hd_X5_get : d_X5_get + 1 ≤ d) : ∀ q ∈ T_X5_mend E env, SS p l e R s m args below meth c cells slots Q D C A ad SH 10 cX5_mend (some .int) q.1 q.2 := List.forall_mem_append.mpr ⟨ts_X5_mend_0 X hR hcs h_X5_isIn hd_X5_isIn h_X5_conflicts hd_X5_conflicts h_X5_get hd_X5_get, List.forall_mem_append.mpr ⟨ts_X5_mend_1 X hR hcs h_X5_isIn hd_X5_isIn h_X5_conflicts hd_X5_conflicts h_X5_get hd_X5_get, ts_X5_mend_2 X hR hcs h_X5_isIn hd_X5_isIn h_X5_conflicts hd_X5_conflicts h_X5_get hd_X5_get⟩⟩
