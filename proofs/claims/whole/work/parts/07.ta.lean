/-! TABLES OF STEPS -/
def T_X0_keep (E : Ex) (env : Nat → Mf) : List (Nat × Stq) := [(0, o_al 1 0),
  (1, o_gR SH 4 0 0),
  (4, o_al 5 0),
  (5, o_gI SH 8 0 1),
  (8, o_ra SH 9),
  (9, o_al 10 1),
  (10, o_callV SH env 13 10 1 2),
  (13, o_al 14 0),
  (14, o_al 15 0),
  (15, o_gI SH 18 0 1),
  (18, o_ic 19 (1)),
  (19, o_b2 20 (fun x y => x + y)),
  (20, o_ic 22 (6)),
  (22, o_rem 23),
  (23, o_pI SH 26 0 1),
  (26, o_al 27 0),
  (27, o_al 28 0),
  (28, o_gI SH 31 0 2),
  (31, o_ic 32 (1)),
  (32, o_b2 33 (fun x y => x + y)),
  (33, o_ic 35 (6)),
  (35, o_mm 38 minI),
  (38, o_pI SH 41 0 2),
  (41, o_retV)]
set_option maxRecDepth 100000 in
set_option maxHeartbeats 4000000 in
theorem ts_X0_keep {p : Program} {l : Launch} {e : Env} {R : Room} {s : State} {m : MethodId} {args : Array Value} {below : List Frame} {meth : Method} {c : Code} {cells slots : Nat} {Q : State → Prop} {D : va_G} {C : CI3} {A : Nat → Prop} {ad : Nat → Nat} {E : Ex} {env : Nat → Mf} {d : Nat} (X : Cx p R s m args c cX0_keep 2 RX0 D C A ad SH E) (hR : d ≤ R.frames ∧ 100 * d ≤ R.locals) (hcs : cells ≤ R.cells ∧ slots ≤ R.slots) (hd1 : 1 ≤ d) {d_X2_copyFrom : Nat} (h_X2_copyFrom : CM l SH E yX2_copyFrom cX2_copyFrom 2 (none) d_X2_copyFrom (env 10)) (hd_X2_copyFrom : d_X2_copyFrom + 1 ≤ d) : ∀ q ∈ T_X0_keep E env, SS p l e R s m args below meth c cells slots Q D C A ad SH 2 cX0_keep (none) q.1 q.2 := by
  unfold T_X0_keep
  refine List.forall_mem_cons.mpr ⟨s_aload_n (pc := 0) X (i := 0) (by decide +kernel) rfl, ?_⟩
  refine List.forall_mem_cons.mpr ⟨s_getR (pc := 1) X (idx := 11) (by decide +kernel) inTX0 rfl (by decide) lk_RX0_11 rfl, ?_⟩
  refine List.forall_mem_cons.mpr ⟨s_aload_n (pc := 4) X (i := 0) (by decide +kernel) rfl, ?_⟩
  refine List.forall_mem_cons.mpr ⟨s_getI (pc := 5) X (idx := 17) (by decide +kernel) inTX0 rfl (by decide) lk_RX0_17 rfl, ?_⟩
  refine List.forall_mem_cons.mpr ⟨s_aald (pc := 8) X (by decide +kernel), ?_⟩
  refine List.forall_mem_cons.mpr ⟨s_aload_n (pc := 9) X (i := 1) (by decide +kernel) rfl, ?_⟩
  refine List.forall_mem_cons.mpr ⟨s_callV (pc := 10) X (idx := 25) (by decide +kernel) h_X2_copyFrom rfl lk_RX0_25 ls_X2_copyFrom lz_X2_copyFrom li_RX2 lc_X2_copyFrom hv_X2_copyFrom ⟨Nat.le_trans hd_X2_copyFrom hR.1, Nat.le_trans (by have := hd_X2_copyFrom; omega) hR.2⟩ hcs, ?_⟩
  refine List.forall_mem_cons.mpr ⟨s_aload_n (pc := 13) X (i := 0) (by decide +kernel) rfl, ?_⟩
  refine List.forall_mem_cons.mpr ⟨s_aload_n (pc := 14) X (i := 0) (by decide +kernel) rfl, ?_⟩
  refine List.forall_mem_cons.mpr ⟨s_getI (pc := 15) X (idx := 17) (by decide +kernel) inTX0 rfl (by decide) lk_RX0_17 rfl, ?_⟩
  refine List.forall_mem_cons.mpr ⟨s_iconst (pc := 18) X (n := 1) (by decide +kernel) (by decide), ?_⟩
  refine List.forall_mem_cons.mpr ⟨s_iadd (pc := 19) X (by decide +kernel), ?_⟩
  refine List.forall_mem_cons.mpr ⟨s_bipush (pc := 20) X (n := 6) (by decide +kernel) (by decide), ?_⟩
  refine List.forall_mem_cons.mpr ⟨s_irem (pc := 22) X (by decide +kernel), ?_⟩
  refine List.forall_mem_cons.mpr ⟨s_putI (pc := 23) X (idx := 17) (by decide +kernel) inTX0 tyX0 tyX0_ok nmX0 rfl (by decide) lk_RX0_17 rfl rfl (by decide +kernel), ?_⟩
  refine List.forall_mem_cons.mpr ⟨s_aload_n (pc := 26) X (i := 0) (by decide +kernel) rfl, ?_⟩
  refine List.forall_mem_cons.mpr ⟨s_aload_n (pc := 27) X (i := 0) (by decide +kernel) rfl, ?_⟩
  refine List.forall_mem_cons.mpr ⟨s_getI (pc := 28) X (idx := 21) (by decide +kernel) inTX0 rfl (by decide) lk_RX0_21 rfl, ?_⟩
  refine List.forall_mem_cons.mpr ⟨s_iconst (pc := 31) X (n := 1) (by decide +kernel) (by decide), ?_⟩
  refine List.forall_mem_cons.mpr ⟨s_iadd (pc := 32) X (by decide +kernel), ?_⟩
  refine List.forall_mem_cons.mpr ⟨s_bipush (pc := 33) X (n := 6) (by decide +kernel) (by decide), ?_⟩
  refine List.forall_mem_cons.mpr ⟨s_mmin (pc := 35) X (idx := 29) (by decide +kernel) lk_RX0_29 lk_mmin_s lk_math lk_mmin_c ⟨Nat.le_trans hd1 hR.1, Nat.le_trans (Nat.mul_le_mul_left 100 hd1) hR.2⟩ hcs, ?_⟩
  refine List.forall_mem_cons.mpr ⟨s_putI (pc := 38) X (idx := 21) (by decide +kernel) inTX0 tyX0 tyX0_ok nmX0 rfl (by decide) lk_RX0_21 rfl rfl (by decide +kernel), ?_⟩
  refine List.forall_mem_cons.mpr ⟨s_retV (pc := 41) (by decide +kernel), ?_⟩
  exact fun _ h => absurd h List.not_mem_nil
def T_X0_giveBack (E : Ex) (env : Nat → Mf) : List (Nat × Stq) := [(0, o_al 1 0),
  (1, o_gI SH 4 0 2),
  (4, o_ne0 9 7),
  (7, o_ic 8 (0)),
  (8, o_retZ),
  (9, o_al 10 0),
  (10, o_al 11 0),
  (11, o_gI SH 14 0 1),
  (14, o_ic 16 (6)),
  (16, o_b2 17 (fun x y => x + y)),
  (17, o_ic 18 (1)),
  (18, o_b2 19 (fun x y => x - y)),
  (19, o_ic 21 (6)),
  (21, o_rem 22),
  (22, o_pI SH 25 0 1),
  (25, o_al 26 0),
  (26, o_dup 27),
  (27, o_gI SH 30 0 2),
  (30, o_ic 31 (1)),
  (31, o_b2 32 (fun x y => x - y)),
  (32, o_pI SH 35 0 2),
  (35, o_al 36 1),
  (36, o_al 37 0),
  (37, o_gR SH 40 0 0),
  (40, o_al 41 0),
  (41, o_gI SH 44 0 1),
  (44, o_ra SH 45),
  (45, o_callV SH env 48 10 1 2),
  (48, o_ic 49 (1)),
  (49, o_retZ)]
set_option maxRecDepth 100000 in
set_option maxHeartbeats 4000000 in
theorem ts_X0_giveBack {p : Program} {l : Launch} {e : Env} {R : Room} {s : State} {m : MethodId} {args : Array Value} {below : List Frame} {meth : Method} {c : Code} {cells slots : Nat} {Q : State → Prop} {D : va_G} {C : CI3} {A : Nat → Prop} {ad : Nat → Nat} {E : Ex} {env : Nat → Mf} {d : Nat} (X : Cx p R s m args c cX0_giveBack 2 RX0 D C A ad SH E) (hR : d ≤ R.frames ∧ 100 * d ≤ R.locals) (hcs : cells ≤ R.cells ∧ slots ≤ R.slots) {d_X2_copyFrom : Nat} (h_X2_copyFrom : CM l SH E yX2_copyFrom cX2_copyFrom 2 (none) d_X2_copyFrom (env 10)) (hd_X2_copyFrom : d_X2_copyFrom + 1 ≤ d) : ∀ q ∈ T_X0_giveBack E env, SS p l e R s m args below meth c cells slots Q D C A ad SH 2 cX0_giveBack (some .boolean) q.1 q.2 := by
  unfold T_X0_giveBack
  refine List.forall_mem_cons.mpr ⟨s_aload_n (pc := 0) X (i := 0) (by decide +kernel) rfl, ?_⟩
  refine List.forall_mem_cons.mpr ⟨s_getI (pc := 1) X (idx := 21) (by decide +kernel) inTX0 rfl (by decide) lk_RX0_21 rfl, ?_⟩
  refine List.forall_mem_cons.mpr ⟨s_ne0 (pc := 4) X (off := 5) (by decide +kernel) (by decide), ?_⟩
  refine List.forall_mem_cons.mpr ⟨s_iconst (pc := 7) X (n := 0) (by decide +kernel) (by decide), ?_⟩
  refine List.forall_mem_cons.mpr ⟨s_retZ (pc := 8) (by decide +kernel), ?_⟩
  refine List.forall_mem_cons.mpr ⟨s_aload_n (pc := 9) X (i := 0) (by decide +kernel) rfl, ?_⟩
  refine List.forall_mem_cons.mpr ⟨s_aload_n (pc := 10) X (i := 0) (by decide +kernel) rfl, ?_⟩
  refine List.forall_mem_cons.mpr ⟨s_getI (pc := 11) X (idx := 17) (by decide +kernel) inTX0 rfl (by decide) lk_RX0_17 rfl, ?_⟩
  refine List.forall_mem_cons.mpr ⟨s_bipush (pc := 14) X (n := 6) (by decide +kernel) (by decide), ?_⟩
  refine List.forall_mem_cons.mpr ⟨s_iadd (pc := 16) X (by decide +kernel), ?_⟩
  refine List.forall_mem_cons.mpr ⟨s_iconst (pc := 17) X (n := 1) (by decide +kernel) (by decide), ?_⟩
  refine List.forall_mem_cons.mpr ⟨s_isub (pc := 18) X (by decide +kernel), ?_⟩
  refine List.forall_mem_cons.mpr ⟨s_bipush (pc := 19) X (n := 6) (by decide +kernel) (by decide), ?_⟩
  refine List.forall_mem_cons.mpr ⟨s_irem (pc := 21) X (by decide +kernel), ?_⟩
  refine List.forall_mem_cons.mpr ⟨s_putI (pc := 22) X (idx := 17) (by decide +kernel) inTX0 tyX0 tyX0_ok nmX0 rfl (by decide) lk_RX0_17 rfl rfl (by decide +kernel), ?_⟩
  refine List.forall_mem_cons.mpr ⟨s_aload_n (pc := 25) X (i := 0) (by decide +kernel) rfl, ?_⟩
  refine List.forall_mem_cons.mpr ⟨s_dup (pc := 26) X (by decide +kernel), ?_⟩
  refine List.forall_mem_cons.mpr ⟨s_getI (pc := 27) X (idx := 21) (by decide +kernel) inTX0 rfl (by decide) lk_RX0_21 rfl, ?_⟩
  refine List.forall_mem_cons.mpr ⟨s_iconst (pc := 30) X (n := 1) (by decide +kernel) (by decide), ?_⟩
  refine List.forall_mem_cons.mpr ⟨s_isub (pc := 31) X (by decide +kernel), ?_⟩
  refine List.forall_mem_cons.mpr ⟨s_putI (pc := 32) X (idx := 21) (by decide +kernel) inTX0 tyX0 tyX0_ok nmX0 rfl (by decide) lk_RX0_21 rfl rfl (by decide +kernel), ?_⟩
  refine List.forall_mem_cons.mpr ⟨s_aload_n (pc := 35) X (i := 1) (by decide +kernel) rfl, ?_⟩
  refine List.forall_mem_cons.mpr ⟨s_aload_n (pc := 36) X (i := 0) (by decide +kernel) rfl, ?_⟩
  refine List.forall_mem_cons.mpr ⟨s_getR (pc := 37) X (idx := 11) (by decide +kernel) inTX0 rfl (by decide) lk_RX0_11 rfl, ?_⟩
  refine List.forall_mem_cons.mpr ⟨s_aload_n (pc := 40) X (i := 0) (by decide +kernel) rfl, ?_⟩
  refine List.forall_mem_cons.mpr ⟨s_getI (pc := 41) X (idx := 17) (by decide +kernel) inTX0 rfl (by decide) lk_RX0_17 rfl, ?_⟩
  refine List.forall_mem_cons.mpr ⟨s_aald (pc := 44) X (by decide +kernel), ?_⟩
  refine List.forall_mem_cons.mpr ⟨s_callV (pc := 45) X (idx := 25) (by decide +kernel) h_X2_copyFrom rfl lk_RX0_25 ls_X2_copyFrom lz_X2_copyFrom li_RX2 lc_X2_copyFrom hv_X2_copyFrom ⟨Nat.le_trans hd_X2_copyFrom hR.1, Nat.le_trans (by have := hd_X2_copyFrom; omega) hR.2⟩ hcs, ?_⟩
  refine List.forall_mem_cons.mpr ⟨s_iconst (pc := 48) X (n := 1) (by decide +kernel) (by decide), ?_⟩
  refine List.forall_mem_cons.mpr ⟨s_retZ (pc := 49) (by decide +kernel), ?_⟩
  exact fun _ h => absurd h List.not_mem_nil
def T_X1_seek_0 (E : Ex) (env : Nat → Mf) : List (Nat × Stq) := [(0, o_al 1 0),
  (1, o_ic 2 (0)),
  (2, o_pI SH 5 1 2),
  (5, o_ic 6 (0)),
  (6, o_is 7 2),
  (7, o_il 8 2),
  (8, o_ic 10 (16)),
  (10, o_ge 57 13),
  (13, o_al 14 0),
  (14, o_gR SH 17 1 0),
  (17, o_il 18 2),
  (18, o_ic 19 (0)),
  (19, o_is_ SH 20),
  (20, o_al 21 0),
  (21, o_gR SH 24 1 1),
  (24, o_il 25 2),
  (25, o_al 26 1),
  (26, o_il 27 2),
  (27, o_callV SH env 30 11 1 2),
  (30, o_eq0 49 33),
  (33, o_al 34 1),
  (34, o_gR SH 37 2 3),
  (37, o_il 38 2),
  (38, o_ia SH E 39),
  (39, o_ic 41 (65536)),
  (41, o_b2 42 (fun x y => x * y)),
  (42, o_ic 43 (1)),
  (43, o_il 44 2),
  (44, o_b2 45 (fun x y => x <<< (y &&& 31))),
  (45, o_b2 46 (fun x y => x + y)),
  (46, o_goto 50),
  (49, o_ic 50 (0)),
  (50, o_is_ SH 51),
  (51, o_inc 54 2 (1)),
  (54, o_goto 7),
  (57, o_ic 58 (0)),
  (58, o_is 59 2),
  (59, o_il 60 2),
  (60, o_ic 62 (16)),
  (62, o_ge 130 65)]
set_option maxRecDepth 100000 in
set_option maxHeartbeats 4000000 in
theorem ts_X1_seek_0 {p : Program} {l : Launch} {e : Env} {R : Room} {s : State} {m : MethodId} {args : Array Value} {below : List Frame} {meth : Method} {c : Code} {cells slots : Nat} {Q : State → Prop} {D : va_G} {C : CI3} {A : Nat → Prop} {ad : Nat → Nat} {E : Ex} {env : Nat → Mf} {d : Nat} (X : Cx p R s m args c cX1_seek 4 RX1 D C A ad SH E) (hR : d ≤ R.frames ∧ 100 * d ≤ R.locals) (hcs : cells ≤ R.cells ∧ slots ≤ R.slots) {d_X2_hasRow : Nat} (h_X2_hasRow : CM l SH E yX2_hasRow cX2_hasRow 2 (some .boolean) d_X2_hasRow (env 11)) (hd_X2_hasRow : d_X2_hasRow + 1 ≤ d) {d_X1_breaksOne : Nat} (h_X1_breaksOne : CM l SH E yX1_breaksOne cX1_breaksOne 4 (some .boolean) d_X1_breaksOne (env 5)) (hd_X1_breaksOne : d_X1_breaksOne + 1 ≤ d) {d_X1_lightestCover : Nat} (h_X1_lightestCover : CM l SH E yX1_lightestCover cX1_lightestCover 10 (some .int) d_X1_lightestCover (env 6)) (hd_X1_lightestCover : d_X1_lightestCover + 1 ≤ d) : ∀ q ∈ T_X1_seek_0 E env, SS p l e R s m args below meth c cells slots Q D C A ad SH 4 cX1_seek (none) q.1 q.2 := by
  unfold T_X1_seek_0
  refine List.forall_mem_cons.mpr ⟨s_aload_n (pc := 0) X (i := 0) (by decide +kernel) rfl, ?_⟩
  refine List.forall_mem_cons.mpr ⟨s_iconst (pc := 1) X (n := 0) (by decide +kernel) (by decide), ?_⟩
  refine List.forall_mem_cons.mpr ⟨s_putI (pc := 2) X (idx := 18) (by decide +kernel) inTX1 tyX1 tyX1_ok nmX1 rfl (by decide) lk_RX1_18 rfl rfl (by decide +kernel), ?_⟩
  refine List.forall_mem_cons.mpr ⟨s_iconst (pc := 5) X (n := 0) (by decide +kernel) (by decide), ?_⟩
  refine List.forall_mem_cons.mpr ⟨s_istore_n (pc := 6) X (i := 2) (by decide +kernel) rfl (by decide), ?_⟩
  refine List.forall_mem_cons.mpr ⟨s_iload_n (pc := 7) X (i := 2) (by decide +kernel) rfl, ?_⟩
  refine List.forall_mem_cons.mpr ⟨s_bipush (pc := 8) X (n := 16) (by decide +kernel) (by decide), ?_⟩
  refine List.forall_mem_cons.mpr ⟨s_ge (pc := 10) X (off := 47) (by decide +kernel) (by decide), ?_⟩
  refine List.forall_mem_cons.mpr ⟨s_aload_n (pc := 13) X (i := 0) (by decide +kernel) rfl, ?_⟩
  refine List.forall_mem_cons.mpr ⟨s_getR (pc := 14) X (idx := 9) (by decide +kernel) inTX1 rfl (by decide) lk_RX1_9 rfl, ?_⟩
  refine List.forall_mem_cons.mpr ⟨s_iload_n (pc := 17) X (i := 2) (by decide +kernel) rfl, ?_⟩
  refine List.forall_mem_cons.mpr ⟨s_iconst (pc := 18) X (n := 0) (by decide +kernel) (by decide), ?_⟩
  refine List.forall_mem_cons.mpr ⟨s_iast (pc := 19) X (by decide +kernel), ?_⟩
  refine List.forall_mem_cons.mpr ⟨s_aload_n (pc := 20) X (i := 0) (by decide +kernel) rfl, ?_⟩
  refine List.forall_mem_cons.mpr ⟨s_getR (pc := 21) X (idx := 15) (by decide +kernel) inTX1 rfl (by decide) lk_RX1_15 rfl, ?_⟩
  refine List.forall_mem_cons.mpr ⟨s_iload_n (pc := 24) X (i := 2) (by decide +kernel) rfl, ?_⟩
  refine List.forall_mem_cons.mpr ⟨s_aload_n (pc := 25) X (i := 1) (by decide +kernel) rfl, ?_⟩
  refine List.forall_mem_cons.mpr ⟨s_iload_n (pc := 26) X (i := 2) (by decide +kernel) rfl, ?_⟩
  refine List.forall_mem_cons.mpr ⟨s_callV (pc := 27) X (idx := 25) (by decide +kernel) h_X2_hasRow rfl lk_RX1_25 ls_X2_hasRow lz_X2_hasRow li_RX2 lc_X2_hasRow hv_X2_hasRow ⟨Nat.le_trans hd_X2_hasRow hR.1, Nat.le_trans (by have := hd_X2_hasRow; omega) hR.2⟩ hcs, ?_⟩
  refine List.forall_mem_cons.mpr ⟨s_eq0 (pc := 30) X (off := 19) (by decide +kernel) (by decide), ?_⟩
  refine List.forall_mem_cons.mpr ⟨s_aload_n (pc := 33) X (i := 1) (by decide +kernel) rfl, ?_⟩
  refine List.forall_mem_cons.mpr ⟨s_getR (pc := 34) X (idx := 31) (by decide +kernel) inTX2 rfl (by decide) lk_RX1_31 rfl, ?_⟩
  refine List.forall_mem_cons.mpr ⟨s_iload_n (pc := 37) X (i := 2) (by decide +kernel) rfl, ?_⟩
  refine List.forall_mem_cons.mpr ⟨s_iald (pc := 38) X (by decide +kernel), ?_⟩
  refine List.forall_mem_cons.mpr ⟨s_ldc (pc := 39) X (i := 34) (by decide +kernel) lk_RX1_c34, ?_⟩
  refine List.forall_mem_cons.mpr ⟨s_imul (pc := 41) X (by decide +kernel), ?_⟩
  refine List.forall_mem_cons.mpr ⟨s_iconst (pc := 42) X (n := 1) (by decide +kernel) (by decide), ?_⟩
  refine List.forall_mem_cons.mpr ⟨s_iload_n (pc := 43) X (i := 2) (by decide +kernel) rfl, ?_⟩
  refine List.forall_mem_cons.mpr ⟨s_ishl (pc := 44) X (by decide +kernel), ?_⟩
  refine List.forall_mem_cons.mpr ⟨s_iadd (pc := 45) X (by decide +kernel), ?_⟩
  refine List.forall_mem_cons.mpr ⟨s_goto (pc := 46) X (off := 4) (by decide +kernel) (by decide), ?_⟩
  refine List.forall_mem_cons.mpr ⟨s_iconst (pc := 49) X (n := 0) (by decide +kernel) (by decide), ?_⟩
  refine List.forall_mem_cons.mpr ⟨s_iast (pc := 50) X (by decide +kernel), ?_⟩
  refine List.forall_mem_cons.mpr ⟨s_iinc (pc := 51) X (n := 1) (by decide +kernel) (by decide) (by decide), ?_⟩
  refine List.forall_mem_cons.mpr ⟨s_goto (pc := 54) X (off := -47) (by decide +kernel) (by decide), ?_⟩
  refine List.forall_mem_cons.mpr ⟨s_iconst (pc := 57) X (n := 0) (by decide +kernel) (by decide), ?_⟩
  refine List.forall_mem_cons.mpr ⟨s_istore_n (pc := 58) X (i := 2) (by decide +kernel) rfl (by decide), ?_⟩
  refine List.forall_mem_cons.mpr ⟨s_iload_n (pc := 59) X (i := 2) (by decide +kernel) rfl, ?_⟩
  refine List.forall_mem_cons.mpr ⟨s_bipush (pc := 60) X (n := 16) (by decide +kernel) (by decide), ?_⟩
  refine List.forall_mem_cons.mpr ⟨s_ge (pc := 62) X (off := 68) (by decide +kernel) (by decide), ?_⟩
  exact fun _ h => absurd h List.not_mem_nil
def T_X1_seek_1 (E : Ex) (env : Nat → Mf) : List (Nat × Stq) := [(65, o_il 66 2),
  (66, o_ic 67 (1)),
  (67, o_b2 68 (fun x y => x + y)),
  (68, o_is 69 3),
  (69, o_il 70 3),
  (70, o_ic 72 (16)),
  (72, o_ge 124 75),
  (75, o_al 76 1),
  (76, o_il 77 2),
  (77, o_il 78 3),
  (78, o_call env 81 5 3),
  (81, o_eq0 118 84),
  (84, o_al 85 0),
  (85, o_dup 86),
  (86, o_gI SH 89 1 2),
  (89, o_ic 90 (1)),
  (90, o_b2 91 (fun x y => x + y)),
  (91, o_pI SH 94 1 2),
  (94, o_al 95 0),
  (95, o_gR SH 98 1 0),
  (98, o_il 99 2),
  (99, o_dup2 100),
  (100, o_ia SH E 101),
  (101, o_ic 102 (1)),
  (102, o_il 103 3),
  (103, o_b2 104 (fun x y => x <<< (y &&& 31))),
  (104, o_b2 105 (fun x y => x ||| y)),
  (105, o_is_ SH 106),
  (106, o_al 107 0),
  (107, o_gR SH 110 1 0),
  (110, o_il 111 3),
  (111, o_dup2 112),
  (112, o_ia SH E 113),
  (113, o_ic 114 (1)),
  (114, o_il 115 2),
  (115, o_b2 116 (fun x y => x <<< (y &&& 31))),
  (116, o_b2 117 (fun x y => x ||| y)),
  (117, o_is_ SH 118),
  (118, o_inc 121 3 (1)),
  (121, o_goto 69)]
set_option maxRecDepth 100000 in
set_option maxHeartbeats 4000000 in
theorem ts_X1_seek_1 {p : Program} {l : Launch} {e : Env} {R : Room} {s : State} {m : MethodId} {args : Array Value} {below : List Frame} {meth : Method} {c : Code} {cells slots : Nat} {Q : State → Prop} {D : va_G} {C : CI3} {A : Nat → Prop} {ad : Nat → Nat} {E : Ex} {env : Nat → Mf} {d : Nat} (X : Cx p R s m args c cX1_seek 4 RX1 D C A ad SH E) (hR : d ≤ R.frames ∧ 100 * d ≤ R.locals) (hcs : cells ≤ R.cells ∧ slots ≤ R.slots) {d_X2_hasRow : Nat} (h_X2_hasRow : CM l SH E yX2_hasRow cX2_hasRow 2 (some .boolean) d_X2_hasRow (env 11)) (hd_X2_hasRow : d_X2_hasRow + 1 ≤ d) {d_X1_breaksOne : Nat} (h_X1_breaksOne : CM l SH E yX1_breaksOne cX1_breaksOne 4 (some .boolean) d_X1_breaksOne (env 5)) (hd_X1_breaksOne : d_X1_breaksOne + 1 ≤ d) {d_X1_lightestCover : Nat} (h_X1_lightestCover : CM l SH E yX1_lightestCover cX1_lightestCover 10 (some .int) d_X1_lightestCover (env 6)) (hd_X1_lightestCover : d_X1_lightestCover + 1 ≤ d) : ∀ q ∈ T_X1_seek_1 E env, SS p l e R s m args below meth c cells slots Q D C A ad SH 4 cX1_seek (none) q.1 q.2 := by
  unfold T_X1_seek_1
  refine List.forall_mem_cons.mpr ⟨s_iload_n (pc := 65) X (i := 2) (by decide +kernel) rfl, ?_⟩
  refine List.forall_mem_cons.mpr ⟨s_iconst (pc := 66) X (n := 1) (by decide +kernel) (by decide), ?_⟩
  refine List.forall_mem_cons.mpr ⟨s_iadd (pc := 67) X (by decide +kernel), ?_⟩
  refine List.forall_mem_cons.mpr ⟨s_istore_n (pc := 68) X (i := 3) (by decide +kernel) rfl (by decide), ?_⟩
  refine List.forall_mem_cons.mpr ⟨s_iload_n (pc := 69) X (i := 3) (by decide +kernel) rfl, ?_⟩
  refine List.forall_mem_cons.mpr ⟨s_bipush (pc := 70) X (n := 16) (by decide +kernel) (by decide), ?_⟩
  refine List.forall_mem_cons.mpr ⟨s_ge (pc := 72) X (off := 52) (by decide +kernel) (by decide), ?_⟩
  refine List.forall_mem_cons.mpr ⟨s_aload_n (pc := 75) X (i := 1) (by decide +kernel) rfl, ?_⟩
  refine List.forall_mem_cons.mpr ⟨s_iload_n (pc := 76) X (i := 2) (by decide +kernel) rfl, ?_⟩
  refine List.forall_mem_cons.mpr ⟨s_iload_n (pc := 77) X (i := 3) (by decide +kernel) rfl, ?_⟩
  refine List.forall_mem_cons.mpr ⟨s_callS (pc := 78) X (idx := 35) (by decide +kernel) h_X1_breaksOne lk_RX1_35 ls_X1_breaksOne li_RX1 lc_X1_breaksOne hy_X1_breaksOne ⟨Nat.le_trans hd_X1_breaksOne hR.1, Nat.le_trans (by have := hd_X1_breaksOne; omega) hR.2⟩ hcs, ?_⟩
  refine List.forall_mem_cons.mpr ⟨s_eq0 (pc := 81) X (off := 37) (by decide +kernel) (by decide), ?_⟩
  refine List.forall_mem_cons.mpr ⟨s_aload_n (pc := 84) X (i := 0) (by decide +kernel) rfl, ?_⟩
  refine List.forall_mem_cons.mpr ⟨s_dup (pc := 85) X (by decide +kernel), ?_⟩
  refine List.forall_mem_cons.mpr ⟨s_getI (pc := 86) X (idx := 18) (by decide +kernel) inTX1 rfl (by decide) lk_RX1_18 rfl, ?_⟩
  refine List.forall_mem_cons.mpr ⟨s_iconst (pc := 89) X (n := 1) (by decide +kernel) (by decide), ?_⟩
  refine List.forall_mem_cons.mpr ⟨s_iadd (pc := 90) X (by decide +kernel), ?_⟩
  refine List.forall_mem_cons.mpr ⟨s_putI (pc := 91) X (idx := 18) (by decide +kernel) inTX1 tyX1 tyX1_ok nmX1 rfl (by decide) lk_RX1_18 rfl rfl (by decide +kernel), ?_⟩
  refine List.forall_mem_cons.mpr ⟨s_aload_n (pc := 94) X (i := 0) (by decide +kernel) rfl, ?_⟩
  refine List.forall_mem_cons.mpr ⟨s_getR (pc := 95) X (idx := 9) (by decide +kernel) inTX1 rfl (by decide) lk_RX1_9 rfl, ?_⟩
  refine List.forall_mem_cons.mpr ⟨s_iload_n (pc := 98) X (i := 2) (by decide +kernel) rfl, ?_⟩
  refine List.forall_mem_cons.mpr ⟨s_dup2 (pc := 99) X (by decide +kernel), ?_⟩
  refine List.forall_mem_cons.mpr ⟨s_iald (pc := 100) X (by decide +kernel), ?_⟩
  refine List.forall_mem_cons.mpr ⟨s_iconst (pc := 101) X (n := 1) (by decide +kernel) (by decide), ?_⟩
  refine List.forall_mem_cons.mpr ⟨s_iload_n (pc := 102) X (i := 3) (by decide +kernel) rfl, ?_⟩
  refine List.forall_mem_cons.mpr ⟨s_ishl (pc := 103) X (by decide +kernel), ?_⟩
  refine List.forall_mem_cons.mpr ⟨s_ior (pc := 104) X (by decide +kernel), ?_⟩
  refine List.forall_mem_cons.mpr ⟨s_iast (pc := 105) X (by decide +kernel), ?_⟩
  refine List.forall_mem_cons.mpr ⟨s_aload_n (pc := 106) X (i := 0) (by decide +kernel) rfl, ?_⟩
  refine List.forall_mem_cons.mpr ⟨s_getR (pc := 107) X (idx := 9) (by decide +kernel) inTX1 rfl (by decide) lk_RX1_9 rfl, ?_⟩
  refine List.forall_mem_cons.mpr ⟨s_iload_n (pc := 110) X (i := 3) (by decide +kernel) rfl, ?_⟩
  refine List.forall_mem_cons.mpr ⟨s_dup2 (pc := 111) X (by decide +kernel), ?_⟩
  refine List.forall_mem_cons.mpr ⟨s_iald (pc := 112) X (by decide +kernel), ?_⟩
  refine List.forall_mem_cons.mpr ⟨s_iconst (pc := 113) X (n := 1) (by decide +kernel) (by decide), ?_⟩
  refine List.forall_mem_cons.mpr ⟨s_iload_n (pc := 114) X (i := 2) (by decide +kernel) rfl, ?_⟩
  refine List.forall_mem_cons.mpr ⟨s_ishl (pc := 115) X (by decide +kernel), ?_⟩
  refine List.forall_mem_cons.mpr ⟨s_ior (pc := 116) X (by decide +kernel), ?_⟩
  refine List.forall_mem_cons.mpr ⟨s_iast (pc := 117) X (by decide +kernel), ?_⟩
  refine List.forall_mem_cons.mpr ⟨s_iinc (pc := 118) X (n := 1) (by decide +kernel) (by decide) (by decide), ?_⟩
  refine List.forall_mem_cons.mpr ⟨s_goto (pc := 121) X (off := -52) (by decide +kernel) (by decide), ?_⟩
  exact fun _ h => absurd h List.not_mem_nil
def T_X1_seek_2 (E : Ex) (env : Nat → Mf) : List (Nat × Stq) := [(124, o_inc 127 2 (1)),
  (127, o_goto 59),
  (130, o_al 131 0),
  (131, o_al 132 0),
  (132, o_gR SH 135 1 0),
  (135, o_al 136 0),
  (136, o_gR SH 139 1 1),
  (139, o_ic 141 (65535)),
  (141, o_ic 142 (0)),
  (142, o_call env 145 6 4),
  (145, o_pI SH 148 1 3),
  (148, o_retV)]
set_option maxRecDepth 100000 in
set_option maxHeartbeats 4000000 in
theorem ts_X1_seek_2 {p : Program} {l : Launch} {e : Env} {R : Room} {s : State} {m : MethodId} {args : Array Value} {below : List Frame} {meth : Method} {c : Code} {cells slots : Nat} {Q : State → Prop} {D : va_G} {C : CI3} {A : Nat → Prop} {ad : Nat → Nat} {E : Ex} {env : Nat → Mf} {d : Nat} (X : Cx p R s m args c cX1_seek 4 RX1 D C A ad SH E) (hR : d ≤ R.frames ∧ 100 * d ≤ R.locals) (hcs : cells ≤ R.cells ∧ slots ≤ R.slots) {d_X2_hasRow : Nat} (h_X2_hasRow : CM l SH E yX2_hasRow cX2_hasRow 2 (some .boolean) d_X2_hasRow (env 11)) (hd_X2_hasRow : d_X2_hasRow + 1 ≤ d) {d_X1_breaksOne : Nat} (h_X1_breaksOne : CM l SH E yX1_breaksOne cX1_breaksOne 4 (some .boolean) d_X1_breaksOne (env 5)) (hd_X1_breaksOne : d_X1_breaksOne + 1 ≤ d) {d_X1_lightestCover : Nat} (h_X1_lightestCover : CM l SH E yX1_lightestCover cX1_lightestCover 10 (some .int) d_X1_lightestCover (env 6)) (hd_X1_lightestCover : d_X1_lightestCover + 1 ≤ d) : ∀ q ∈ T_X1_seek_2 E env, SS p l e R s m args below meth c cells slots Q D C A ad SH 4 cX1_seek (none) q.1 q.2 := by
  unfold T_X1_seek_2
  refine List.forall_mem_cons.mpr ⟨s_iinc (pc := 124) X (n := 1) (by decide +kernel) (by decide) (by decide), ?_⟩
  refine List.forall_mem_cons.mpr ⟨s_goto (pc := 127) X (off := -68) (by decide +kernel) (by decide), ?_⟩
  refine List.forall_mem_cons.mpr ⟨s_aload_n (pc := 130) X (i := 0) (by decide +kernel) rfl, ?_⟩
  refine List.forall_mem_cons.mpr ⟨s_aload_n (pc := 131) X (i := 0) (by decide +kernel) rfl, ?_⟩
  refine List.forall_mem_cons.mpr ⟨s_getR (pc := 132) X (idx := 9) (by decide +kernel) inTX1 rfl (by decide) lk_RX1_9 rfl, ?_⟩
  refine List.forall_mem_cons.mpr ⟨s_aload_n (pc := 135) X (i := 0) (by decide +kernel) rfl, ?_⟩
  refine List.forall_mem_cons.mpr ⟨s_getR (pc := 136) X (idx := 15) (by decide +kernel) inTX1 rfl (by decide) lk_RX1_15 rfl, ?_⟩
  refine List.forall_mem_cons.mpr ⟨s_ldc (pc := 139) X (i := 39) (by decide +kernel) lk_RX1_c39, ?_⟩
  refine List.forall_mem_cons.mpr ⟨s_iconst (pc := 141) X (n := 0) (by decide +kernel) (by decide), ?_⟩
  refine List.forall_mem_cons.mpr ⟨s_callS (pc := 142) X (idx := 40) (by decide +kernel) h_X1_lightestCover lk_RX1_40 ls_X1_lightestCover li_RX1 lc_X1_lightestCover hy_X1_lightestCover ⟨Nat.le_trans hd_X1_lightestCover hR.1, Nat.le_trans (by have := hd_X1_lightestCover; omega) hR.2⟩ hcs, ?_⟩
  refine List.forall_mem_cons.mpr ⟨s_putI (pc := 145) X (idx := 22) (by decide +kernel) inTX1 tyX1 tyX1_ok nmX1 rfl (by decide) lk_RX1_22 rfl rfl (by decide +kernel), ?_⟩
  refine List.forall_mem_cons.mpr ⟨s_retV (pc := 148) (by decide +kernel), ?_⟩
  exact fun _ h => absurd h List.not_mem_nil
def T_X1_seek (E : Ex) (env : Nat → Mf) : List (Nat × Stq) := T_X1_seek_0 E env ++ (T_X1_seek_1 E env ++ (T_X1_seek_2 E env))
theorem ts_X1_seek {p : Program} {l : Launch} {e : Env} {R : Room} {s : State} {m : MethodId} {args : Array Value} {below : List Frame} {meth : Method} {c : Code} {cells slots : Nat} {Q : State → Prop} {D : va_G} {C : CI3} {A : Nat → Prop} {ad : Nat → Nat} {E : Ex} {env : Nat → Mf} {d : Nat} (X : Cx p R s m args c cX1_seek 4 RX1 D C A ad SH E) (hR : d ≤ R.frames ∧ 100 * d ≤ R.locals) (hcs : cells ≤ R.cells ∧ slots ≤ R.slots) {d_X2_hasRow : Nat} (h_X2_hasRow : CM l SH E yX2_hasRow cX2_hasRow 2 (some .boolean) d_X2_hasRow (env 11)) (hd_X2_hasRow : d_X2_hasRow + 1 ≤ d) {d_X1_breaksOne : Nat} (h_X1_breaksOne : CM l SH E yX1_breaksOne cX1_breaksOne 4 (some .boolean) d_X1_breaksOne (env 5)) (hd_X1_breaksOne : d_X1_breaksOne + 1 ≤ d) {d_X1_lightestCover : Nat} (h_X1_lightestCover : CM l SH E yX1_lightestCover cX1_lightestCover 10 (some .int) d_X1_lightestCover (env 6)) (hd_X1_lightestCover : d_X1_lightestCover + 1 ≤ d) : ∀ q ∈ T_X1_seek E env, SS p l e R s m args below meth c cells slots Q D C A ad SH 4 cX1_seek (none) q.1 q.2 := List.forall_mem_append.mpr ⟨ts_X1_seek_0 X hR hcs h_X2_hasRow hd_X2_hasRow h_X1_breaksOne hd_X1_breaksOne h_X1_lightestCover hd_X1_lightestCover, List.forall_mem_append.mpr ⟨ts_X1_seek_1 X hR hcs h_X2_hasRow hd_X2_hasRow h_X1_breaksOne hd_X1_breaksOne h_X1_lightestCover hd_X1_lightestCover, ts_X1_seek_2 X hR hcs h_X2_hasRow hd_X2_hasRow h_X1_breaksOne hd_X1_breaksOne h_X1_lightestCover hd_X1_lightestCover⟩⟩
def T_X1_cost (E : Ex) (env : Nat → Mf) : List (Nat × Stq) := [(0, o_al 1 0),
  (1, o_gI SH 4 1 3),
  (4, o_ic 6 (65536)),
  (6, o_div 7),
  (7, o_ret)]
set_option maxRecDepth 100000 in
set_option maxHeartbeats 4000000 in
theorem ts_X1_cost {p : Program} {l : Launch} {e : Env} {R : Room} {s : State} {m : MethodId} {args : Array Value} {below : List Frame} {meth : Method} {c : Code} {cells slots : Nat} {Q : State → Prop} {D : va_G} {C : CI3} {A : Nat → Prop} {ad : Nat → Nat} {E : Ex} {env : Nat → Mf} {d : Nat} (X : Cx p R s m args c cX1_cost 1 RX1 D C A ad SH E) (hR : d ≤ R.frames ∧ 100 * d ≤ R.locals) (hcs : cells ≤ R.cells ∧ slots ≤ R.slots) : ∀ q ∈ T_X1_cost E env, SS p l e R s m args below meth c cells slots Q D C A ad SH 1 cX1_cost (some .int) q.1 q.2 := by
  unfold T_X1_cost
  refine List.forall_mem_cons.mpr ⟨s_aload_n (pc := 0) X (i := 0) (by decide +kernel) rfl, ?_⟩
  refine List.forall_mem_cons.mpr ⟨s_getI (pc := 1) X (idx := 22) (by decide +kernel) inTX1 rfl (by decide) lk_RX1_22 rfl, ?_⟩
  refine List.forall_mem_cons.mpr ⟨s_ldc (pc := 4) X (i := 34) (by decide +kernel) lk_RX1_c34, ?_⟩
  refine List.forall_mem_cons.mpr ⟨s_idiv (pc := 6) X (by decide +kernel), ?_⟩
  refine List.forall_mem_cons.mpr ⟨s_ret (pc := 7) rfl (by decide +kernel), ?_⟩
  exact fun _ h => absurd h List.not_mem_nil
def T_X1_slots (E : Ex) (env : Nat → Mf) : List (Nat × Stq) := [(0, o_al 1 0),
  (1, o_gI SH 4 1 3),
  (4, o_ic 6 (65536)),
  (6, o_rem 7),
  (7, o_ret)]
set_option maxRecDepth 100000 in
set_option maxHeartbeats 4000000 in
theorem ts_X1_slots {p : Program} {l : Launch} {e : Env} {R : Room} {s : State} {m : MethodId} {args : Array Value} {below : List Frame} {meth : Method} {c : Code} {cells slots : Nat} {Q : State → Prop} {D : va_G} {C : CI3} {A : Nat → Prop} {ad : Nat → Nat} {E : Ex} {env : Nat → Mf} {d : Nat} (X : Cx p R s m args c cX1_slots 1 RX1 D C A ad SH E) (hR : d ≤ R.frames ∧ 100 * d ≤ R.locals) (hcs : cells ≤ R.cells ∧ slots ≤ R.slots) : ∀ q ∈ T_X1_slots E env, SS p l e R s m args below meth c cells slots Q D C A ad SH 1 cX1_slots (some .int) q.1 q.2 := by
  unfold T_X1_slots
  refine List.forall_mem_cons.mpr ⟨s_aload_n (pc := 0) X (i := 0) (by decide +kernel) rfl, ?_⟩
  refine List.forall_mem_cons.mpr ⟨s_getI (pc := 1) X (idx := 22) (by decide +kernel) inTX1 rfl (by decide) lk_RX1_22 rfl, ?_⟩
  refine List.forall_mem_cons.mpr ⟨s_ldc (pc := 4) X (i := 34) (by decide +kernel) lk_RX1_c34, ?_⟩
  refine List.forall_mem_cons.mpr ⟨s_irem (pc := 6) X (by decide +kernel), ?_⟩
  refine List.forall_mem_cons.mpr ⟨s_ret (pc := 7) rfl (by decide +kernel), ?_⟩
  exact fun _ h => absurd h List.not_mem_nil
def T_X1_breaksOne (E : Ex) (env : Nat → Mf) : List (Nat × Stq) := [(0, o_ic 1 (0)),
  (1, o_is 2 3),
  (2, o_il 3 3),
  (3, o_ic 4 (4)),
  (4, o_ge 39 7),
  (7, o_al 8 0),
  (8, o_gR SH 11 2 5),
  (11, o_il 12 3),
  (12, o_ia SH E 13),
  (13, o_eq0 33 16),
  (16, o_al 17 0),
  (17, o_il 18 1),
  (18, o_il 19 2),
  (19, o_al 20 0),
  (20, o_gR SH 23 2 5),
  (23, o_il 24 3),
  (24, o_ia SH E 25),
  (25, o_callV SH env 28 20 3 2),
  (28, o_eq0 33 31),
  (31, o_ic 32 (1)),
  (32, o_retZ),
  (33, o_inc 36 3 (1)),
  (36, o_goto 2),
  (39, o_ic 40 (0)),
  (40, o_retZ)]
set_option maxRecDepth 100000 in
set_option maxHeartbeats 4000000 in
theorem ts_X1_breaksOne {p : Program} {l : Launch} {e : Env} {R : Room} {s : State} {m : MethodId} {args : Array Value} {below : List Frame} {meth : Method} {c : Code} {cells slots : Nat} {Q : State → Prop} {D : va_G} {C : CI3} {A : Nat → Prop} {ad : Nat → Nat} {E : Ex} {env : Nat → Mf} {d : Nat} (X : Cx p R s m args c cX1_breaksOne 4 RX1 D C A ad SH E) (hR : d ≤ R.frames ∧ 100 * d ≤ R.locals) (hcs : cells ≤ R.cells ∧ slots ≤ R.slots) {d_X2_pairBreaks : Nat} (h_X2_pairBreaks : CM l SH E yX2_pairBreaks cX2_pairBreaks 5 (some .boolean) d_X2_pairBreaks (env 20)) (hd_X2_pairBreaks : d_X2_pairBreaks + 1 ≤ d) : ∀ q ∈ T_X1_breaksOne E env, SS p l e R s m args below meth c cells slots Q D C A ad SH 4 cX1_breaksOne (some .boolean) q.1 q.2 := by
  unfold T_X1_breaksOne
  refine List.forall_mem_cons.mpr ⟨s_iconst (pc := 0) X (n := 0) (by decide +kernel) (by decide), ?_⟩
  refine List.forall_mem_cons.mpr ⟨s_istore_n (pc := 1) X (i := 3) (by decide +kernel) rfl (by decide), ?_⟩
  refine List.forall_mem_cons.mpr ⟨s_iload_n (pc := 2) X (i := 3) (by decide +kernel) rfl, ?_⟩
  refine List.forall_mem_cons.mpr ⟨s_iconst (pc := 3) X (n := 4) (by decide +kernel) (by decide), ?_⟩
  refine List.forall_mem_cons.mpr ⟨s_ge (pc := 4) X (off := 35) (by decide +kernel) (by decide), ?_⟩
  refine List.forall_mem_cons.mpr ⟨s_aload_n (pc := 7) X (i := 0) (by decide +kernel) rfl, ?_⟩
  refine List.forall_mem_cons.mpr ⟨s_getR (pc := 8) X (idx := 44) (by decide +kernel) inTX2 rfl (by decide) lk_RX1_44 rfl, ?_⟩
  refine List.forall_mem_cons.mpr ⟨s_iload_n (pc := 11) X (i := 3) (by decide +kernel) rfl, ?_⟩
  refine List.forall_mem_cons.mpr ⟨s_iald (pc := 12) X (by decide +kernel), ?_⟩
  refine List.forall_mem_cons.mpr ⟨s_eq0 (pc := 13) X (off := 20) (by decide +kernel) (by decide), ?_⟩
  refine List.forall_mem_cons.mpr ⟨s_aload_n (pc := 16) X (i := 0) (by decide +kernel) rfl, ?_⟩
  refine List.forall_mem_cons.mpr ⟨s_iload_n (pc := 17) X (i := 1) (by decide +kernel) rfl, ?_⟩
  refine List.forall_mem_cons.mpr ⟨s_iload_n (pc := 18) X (i := 2) (by decide +kernel) rfl, ?_⟩
  refine List.forall_mem_cons.mpr ⟨s_aload_n (pc := 19) X (i := 0) (by decide +kernel) rfl, ?_⟩
  refine List.forall_mem_cons.mpr ⟨s_getR (pc := 20) X (idx := 44) (by decide +kernel) inTX2 rfl (by decide) lk_RX1_44 rfl, ?_⟩
  refine List.forall_mem_cons.mpr ⟨s_iload_n (pc := 23) X (i := 3) (by decide +kernel) rfl, ?_⟩
  refine List.forall_mem_cons.mpr ⟨s_iald (pc := 24) X (by decide +kernel), ?_⟩
  refine List.forall_mem_cons.mpr ⟨s_callV (pc := 25) X (idx := 47) (by decide +kernel) h_X2_pairBreaks rfl lk_RX1_47 ls_X2_pairBreaks lz_X2_pairBreaks li_RX2 lc_X2_pairBreaks hv_X2_pairBreaks ⟨Nat.le_trans hd_X2_pairBreaks hR.1, Nat.le_trans (by have := hd_X2_pairBreaks; omega) hR.2⟩ hcs, ?_⟩
  refine List.forall_mem_cons.mpr ⟨s_eq0 (pc := 28) X (off := 5) (by decide +kernel) (by decide), ?_⟩
  refine List.forall_mem_cons.mpr ⟨s_iconst (pc := 31) X (n := 1) (by decide +kernel) (by decide), ?_⟩
  refine List.forall_mem_cons.mpr ⟨s_retZ (pc := 32) (by decide +kernel), ?_⟩
  refine List.forall_mem_cons.mpr ⟨s_iinc (pc := 33) X (n := 1) (by decide +kernel) (by decide) (by decide), ?_⟩
  refine List.forall_mem_cons.mpr ⟨s_goto (pc := 36) X (off := -34) (by decide +kernel) (by decide), ?_⟩
  refine List.forall_mem_cons.mpr ⟨s_iconst (pc := 39) X (n := 0) (by decide +kernel) (by decide), ?_⟩
  refine List.forall_mem_cons.mpr ⟨s_retZ (pc := 40) (by decide +kernel), ?_⟩
  exact fun _ h => absurd h List.not_mem_nil
def T_X1_lightestCover_0 (E : Ex) (env : Nat → Mf) : List (Nat × Stq) := [(0, o_al 1 0),
  (1, o_il 2 2),
  (2, o_call env 5 7 2),
  (5, o_is 7 4),
  (7, o_il 9 4),
  (9, o_ic 10 (-1)),
  (10, o_eq 19 13),
  (13, o_il 14 3),
  (14, o_ic 16 (16)),
  (16, o_le 21 19),
  (19, o_ic 20 (0)),
  (20, o_ret),
  (21, o_al 22 0),
  (22, o_il 24 4),
  (24, o_ia SH E 25),
  (25, o_il 26 2),
  (26, o_b2 27 (fun x y => x &&& y)),
  (27, o_is 29 5),
  (29, o_il 30 2),
  (30, o_ic 31 (1)),
  (31, o_il 33 4),
  (33, o_b2 34 (fun x y => x <<< (y &&& 31))),
  (34, o_ic 35 (-1)),
  (35, o_b2 36 (fun x y => x ^^^ y)),
  (36, o_b2 37 (fun x y => x &&& y)),
  (37, o_is 39 6),
  (39, o_al 40 1),
  (40, o_il 42 5),
  (42, o_call env 45 8 2),
  (45, o_is 47 7),
  (47, o_al 48 0),
  (48, o_al 49 1),
  (49, o_il 51 6),
  (51, o_il 53 5),
  (53, o_ic 54 (-1)),
  (54, o_b2 55 (fun x y => x ^^^ y)),
  (55, o_b2 56 (fun x y => x &&& y)),
  (56, o_il 57 3),
  (57, o_ic 58 (1)),
  (58, o_b2 59 (fun x y => x + y))]
set_option maxRecDepth 100000 in
set_option maxHeartbeats 4000000 in
theorem ts_X1_lightestCover_0 {p : Program} {l : Launch} {e : Env} {R : Room} {s : State} {m : MethodId} {args : Array Value} {below : List Frame} {meth : Method} {c : Code} {cells slots : Nat} {Q : State → Prop} {D : va_G} {C : CI3} {A : Nat → Prop} {ad : Nat → Nat} {E : Ex} {env : Nat → Mf} {d : Nat} (X : Cx p R s m args c cX1_lightestCover 10 RX1 D C A ad SH E) (hR : d ≤ R.frames ∧ 100 * d ≤ R.locals) (hcs : cells ≤ R.cells ∧ slots ≤ R.slots) (hd1 : 1 ≤ d) {d_X1_busiest : Nat} (h_X1_busiest : CM l SH E yX1_busiest cX1_busiest 6 (some .int) d_X1_busiest (env 7)) (hd_X1_busiest : d_X1_busiest + 1 ≤ d) {d_X1_weightOf : Nat} (h_X1_weightOf : CM l SH E yX1_weightOf cX1_weightOf 4 (some .int) d_X1_weightOf (env 8)) (hd_X1_weightOf : d_X1_weightOf + 1 ≤ d) {d_X1_lightestCover : Nat} (h_X1_lightestCover : CM l SH E yX1_lightestCover cX1_lightestCover 10 (some .int) d_X1_lightestCover (env 6)) (hd_X1_lightestCover : d_X1_lightestCover + 1 ≤ d) {d_J6_bitCount_0f7a4 : Nat} (h_J6_bitCount_0f7a4 : CM l SH E yJ6_bitCount_0f7a4 cJ6_bitCount_0f7a4 1 (some .int) d_J6_bitCount_0f7a4 (env 118)) (hd_J6_bitCount_0f7a4 : d_J6_bitCount_0f7a4 + 1 ≤ d) : ∀ q ∈ T_X1_lightestCover_0 E env, SS p l e R s m args below meth c cells slots Q D C A ad SH 10 cX1_lightestCover (some .int) q.1 q.2 := by
  unfold T_X1_lightestCover_0
  refine List.forall_mem_cons.mpr ⟨s_aload_n (pc := 0) X (i := 0) (by decide +kernel) rfl, ?_⟩
  refine List.forall_mem_cons.mpr ⟨s_iload_n (pc := 1) X (i := 2) (by decide +kernel) rfl, ?_⟩
  refine List.forall_mem_cons.mpr ⟨s_callS (pc := 2) X (idx := 51) (by decide +kernel) h_X1_busiest lk_RX1_51 ls_X1_busiest li_RX1 lc_X1_busiest hy_X1_busiest ⟨Nat.le_trans hd_X1_busiest hR.1, Nat.le_trans (by have := hd_X1_busiest; omega) hR.2⟩ hcs, ?_⟩
  refine List.forall_mem_cons.mpr ⟨s_istore (pc := 5) X (by decide +kernel) (by decide), ?_⟩
  refine List.forall_mem_cons.mpr ⟨s_iload (pc := 7) X (by decide +kernel), ?_⟩
  refine List.forall_mem_cons.mpr ⟨s_iconst (pc := 9) X (n := -1) (by decide +kernel) (by decide), ?_⟩
  refine List.forall_mem_cons.mpr ⟨s_eq (pc := 10) X (off := 9) (by decide +kernel) (by decide), ?_⟩
  refine List.forall_mem_cons.mpr ⟨s_iload_n (pc := 13) X (i := 3) (by decide +kernel) rfl, ?_⟩
  refine List.forall_mem_cons.mpr ⟨s_bipush (pc := 14) X (n := 16) (by decide +kernel) (by decide), ?_⟩
  refine List.forall_mem_cons.mpr ⟨s_le (pc := 16) X (off := 5) (by decide +kernel) (by decide), ?_⟩
  refine List.forall_mem_cons.mpr ⟨s_iconst (pc := 19) X (n := 0) (by decide +kernel) (by decide), ?_⟩
  refine List.forall_mem_cons.mpr ⟨s_ret (pc := 20) rfl (by decide +kernel), ?_⟩
  refine List.forall_mem_cons.mpr ⟨s_aload_n (pc := 21) X (i := 0) (by decide +kernel) rfl, ?_⟩
  refine List.forall_mem_cons.mpr ⟨s_iload (pc := 22) X (by decide +kernel), ?_⟩
  refine List.forall_mem_cons.mpr ⟨s_iald (pc := 24) X (by decide +kernel), ?_⟩
  refine List.forall_mem_cons.mpr ⟨s_iload_n (pc := 25) X (i := 2) (by decide +kernel) rfl, ?_⟩
  refine List.forall_mem_cons.mpr ⟨s_iand (pc := 26) X (by decide +kernel), ?_⟩
  refine List.forall_mem_cons.mpr ⟨s_istore (pc := 27) X (by decide +kernel) (by decide), ?_⟩
  refine List.forall_mem_cons.mpr ⟨s_iload_n (pc := 29) X (i := 2) (by decide +kernel) rfl, ?_⟩
  refine List.forall_mem_cons.mpr ⟨s_iconst (pc := 30) X (n := 1) (by decide +kernel) (by decide), ?_⟩
  refine List.forall_mem_cons.mpr ⟨s_iload (pc := 31) X (by decide +kernel), ?_⟩
  refine List.forall_mem_cons.mpr ⟨s_ishl (pc := 33) X (by decide +kernel), ?_⟩
  refine List.forall_mem_cons.mpr ⟨s_iconst (pc := 34) X (n := -1) (by decide +kernel) (by decide), ?_⟩
  refine List.forall_mem_cons.mpr ⟨s_ixor (pc := 35) X (by decide +kernel), ?_⟩
  refine List.forall_mem_cons.mpr ⟨s_iand (pc := 36) X (by decide +kernel), ?_⟩
  refine List.forall_mem_cons.mpr ⟨s_istore (pc := 37) X (by decide +kernel) (by decide), ?_⟩
  refine List.forall_mem_cons.mpr ⟨s_aload_n (pc := 39) X (i := 1) (by decide +kernel) rfl, ?_⟩
  refine List.forall_mem_cons.mpr ⟨s_iload (pc := 40) X (by decide +kernel), ?_⟩
  refine List.forall_mem_cons.mpr ⟨s_callS (pc := 42) X (idx := 55) (by decide +kernel) h_X1_weightOf lk_RX1_55 ls_X1_weightOf li_RX1 lc_X1_weightOf hy_X1_weightOf ⟨Nat.le_trans hd_X1_weightOf hR.1, Nat.le_trans (by have := hd_X1_weightOf; omega) hR.2⟩ hcs, ?_⟩
  refine List.forall_mem_cons.mpr ⟨s_istore (pc := 45) X (by decide +kernel) (by decide), ?_⟩
  refine List.forall_mem_cons.mpr ⟨s_aload_n (pc := 47) X (i := 0) (by decide +kernel) rfl, ?_⟩
  refine List.forall_mem_cons.mpr ⟨s_aload_n (pc := 48) X (i := 1) (by decide +kernel) rfl, ?_⟩
  refine List.forall_mem_cons.mpr ⟨s_iload (pc := 49) X (by decide +kernel), ?_⟩
  refine List.forall_mem_cons.mpr ⟨s_iload (pc := 51) X (by decide +kernel), ?_⟩
  refine List.forall_mem_cons.mpr ⟨s_iconst (pc := 53) X (n := -1) (by decide +kernel) (by decide), ?_⟩
  refine List.forall_mem_cons.mpr ⟨s_ixor (pc := 54) X (by decide +kernel), ?_⟩
  refine List.forall_mem_cons.mpr ⟨s_iand (pc := 55) X (by decide +kernel), ?_⟩
  refine List.forall_mem_cons.mpr ⟨s_iload_n (pc := 56) X (i := 3) (by decide +kernel) rfl, ?_⟩
  refine List.forall_mem_cons.mpr ⟨s_iconst (pc := 57) X (n := 1) (by decide +kernel) (by decide), ?_⟩
  refine List.forall_mem_cons.mpr ⟨s_iadd (pc := 58) X (by decide +kernel), ?_⟩
  exact fun _ h => absurd h List.not_mem_nil
def T_X1_lightestCover_1 (E : Ex) (env : Nat → Mf) : List (Nat × Stq) := [(59, o_call env 62 6 4),
  (62, o_is 64 8),
  (64, o_il 66 5),
  (66, o_call env 69 118 1),
  (69, o_ic 70 (1)),
  (70, o_ne 86 73),
  (73, o_il 75 7),
  (75, o_al 76 1),
  (76, o_il 78 4),
  (78, o_ia SH E 79),
  (79, o_mm 82 minI),
  (82, o_il 84 8),
  (84, o_b2 85 (fun x y => x + y)),
  (85, o_ret),
  (86, o_al 87 1),
  (87, o_il 89 4),
  (89, o_ia SH E 90),
  (90, o_al 91 0),
  (91, o_al 92 1),
  (92, o_il 94 6),
  (94, o_il 95 3),
  (95, o_ic 96 (1)),
  (96, o_b2 97 (fun x y => x + y)),
  (97, o_call env 100 6 4),
  (100, o_b2 101 (fun x y => x + y)),
  (101, o_is 103 9),
  (103, o_il 105 7),
  (105, o_il 107 8),
  (107, o_b2 108 (fun x y => x + y)),
  (108, o_il 110 9),
  (110, o_mm 113 minI),
  (113, o_ret)]
set_option maxRecDepth 100000 in
set_option maxHeartbeats 4000000 in
theorem ts_X1_lightestCover_1 {p : Program} {l : Launch} {e : Env} {R : Room} {s : State} {m : MethodId} {args : Array Value} {below : List Frame} {meth : Method} {c : Code} {cells slots : Nat} {Q : State → Prop} {D : va_G} {C : CI3} {A : Nat → Prop} {ad : Nat → Nat} {E : Ex} {env : Nat → Mf} {d : Nat} (X : Cx p R s m args c cX1_lightestCover 10 RX1 D C A ad SH E) (hR : d ≤ R.frames ∧ 100 * d ≤ R.locals) (hcs : cells ≤ R.cells ∧ slots ≤ R.slots) (hd1 : 1 ≤ d) {d_X1_busiest : Nat} (h_X1_busiest : CM l SH E yX1_busiest cX1_busiest 6 (some .int) d_X1_busiest (env 7)) (hd_X1_busiest : d_X1_busiest + 1 ≤ d) {d_X1_weightOf : Nat} (h_X1_weightOf : CM l SH E yX1_weightOf cX1_weightOf 4 (some .int) d_X1_weightOf (env 8)) (hd_X1_weightOf : d_X1_weightOf + 1 ≤ d) {d_X1_lightestCover : Nat} (h_X1_lightestCover : CM l SH E yX1_lightestCover cX1_lightestCover 10 (some .int) d_X1_lightestCover (env 6)) (hd_X1_lightestCover : d_X1_lightestCover + 1 ≤ d) {d_J6_bitCount_0f7a4 : Nat} (h_J6_bitCount_0f7a4 : CM l SH E yJ6_bitCount_0f7a4 cJ6_bitCount_0f7a4 1 (some .int) d_J6_bitCount_0f7a4 (env 118)) (hd_J6_bitCount_0f7a4 : d_J6_bitCount_0f7a4 + 1 ≤ d) : ∀ q ∈ T_X1_lightestCover_1 E env, SS p l e R s m args below meth c cells slots Q D C A ad SH 10 cX1_lightestCover (some .int) q.1 q.2 := by
  unfold T_X1_lightestCover_1
  refine List.forall_mem_cons.mpr ⟨s_callS (pc := 59) X (idx := 40) (by decide +kernel) h_X1_lightestCover lk_RX1_40 ls_X1_lightestCover li_RX1 lc_X1_lightestCover hy_X1_lightestCover ⟨Nat.le_trans hd_X1_lightestCover hR.1, Nat.le_trans (by have := hd_X1_lightestCover; omega) hR.2⟩ hcs, ?_⟩
  refine List.forall_mem_cons.mpr ⟨s_istore (pc := 62) X (by decide +kernel) (by decide), ?_⟩
  refine List.forall_mem_cons.mpr ⟨s_iload (pc := 64) X (by decide +kernel), ?_⟩
  refine List.forall_mem_cons.mpr ⟨s_callS (pc := 66) X (idx := 58) (by decide +kernel) h_J6_bitCount_0f7a4 lk_RX1_58 ls_J6_bitCount_0f7a4 li_RJ6 lc_J6_bitCount_0f7a4 hy_J6_bitCount_0f7a4 ⟨Nat.le_trans hd_J6_bitCount_0f7a4 hR.1, Nat.le_trans (by have := hd_J6_bitCount_0f7a4; omega) hR.2⟩ hcs, ?_⟩
  refine List.forall_mem_cons.mpr ⟨s_iconst (pc := 69) X (n := 1) (by decide +kernel) (by decide), ?_⟩
  refine List.forall_mem_cons.mpr ⟨s_ne (pc := 70) X (off := 16) (by decide +kernel) (by decide), ?_⟩
  refine List.forall_mem_cons.mpr ⟨s_iload (pc := 73) X (by decide +kernel), ?_⟩
  refine List.forall_mem_cons.mpr ⟨s_aload_n (pc := 75) X (i := 1) (by decide +kernel) rfl, ?_⟩
  refine List.forall_mem_cons.mpr ⟨s_iload (pc := 76) X (by decide +kernel), ?_⟩
  refine List.forall_mem_cons.mpr ⟨s_iald (pc := 78) X (by decide +kernel), ?_⟩
  refine List.forall_mem_cons.mpr ⟨s_mmin (pc := 79) X (idx := 64) (by decide +kernel) lk_RX1_64 lk_mmin_s lk_math lk_mmin_c ⟨Nat.le_trans hd1 hR.1, Nat.le_trans (Nat.mul_le_mul_left 100 hd1) hR.2⟩ hcs, ?_⟩
  refine List.forall_mem_cons.mpr ⟨s_iload (pc := 82) X (by decide +kernel), ?_⟩
  refine List.forall_mem_cons.mpr ⟨s_iadd (pc := 84) X (by decide +kernel), ?_⟩
  refine List.forall_mem_cons.mpr ⟨s_ret (pc := 85) rfl (by decide +kernel), ?_⟩
  refine List.forall_mem_cons.mpr ⟨s_aload_n (pc := 86) X (i := 1) (by decide +kernel) rfl, ?_⟩
  refine List.forall_mem_cons.mpr ⟨s_iload (pc := 87) X (by decide +kernel), ?_⟩
  refine List.forall_mem_cons.mpr ⟨s_iald (pc := 89) X (by decide +kernel), ?_⟩
  refine List.forall_mem_cons.mpr ⟨s_aload_n (pc := 90) X (i := 0) (by decide +kernel) rfl, ?_⟩
  refine List.forall_mem_cons.mpr ⟨s_aload_n (pc := 91) X (i := 1) (by decide +kernel) rfl, ?_⟩
  refine List.forall_mem_cons.mpr ⟨s_iload (pc := 92) X (by decide +kernel), ?_⟩
  refine List.forall_mem_cons.mpr ⟨s_iload_n (pc := 94) X (i := 3) (by decide +kernel) rfl, ?_⟩
  refine List.forall_mem_cons.mpr ⟨s_iconst (pc := 95) X (n := 1) (by decide +kernel) (by decide), ?_⟩
  refine List.forall_mem_cons.mpr ⟨s_iadd (pc := 96) X (by decide +kernel), ?_⟩
  refine List.forall_mem_cons.mpr ⟨s_callS (pc := 97) X (idx := 40) (by decide +kernel) h_X1_lightestCover lk_RX1_40 ls_X1_lightestCover li_RX1 lc_X1_lightestCover hy_X1_lightestCover ⟨Nat.le_trans hd_X1_lightestCover hR.1, Nat.le_trans (by have := hd_X1_lightestCover; omega) hR.2⟩ hcs, ?_⟩
  refine List.forall_mem_cons.mpr ⟨s_iadd (pc := 100) X (by decide +kernel), ?_⟩
  refine List.forall_mem_cons.mpr ⟨s_istore (pc := 101) X (by decide +kernel) (by decide), ?_⟩
  refine List.forall_mem_cons.mpr ⟨s_iload (pc := 103) X (by decide +kernel), ?_⟩
  refine List.forall_mem_cons.mpr ⟨s_iload (pc := 105) X (by decide +kernel), ?_⟩
  refine List.forall_mem_cons.mpr ⟨s_iadd (pc := 107) X (by decide +kernel), ?_⟩
  refine List.forall_mem_cons.mpr ⟨s_iload (pc := 108) X (by decide +kernel), ?_⟩
  refine List.forall_mem_cons.mpr ⟨s_mmin (pc := 110) X (idx := 64) (by decide +kernel) lk_RX1_64 lk_mmin_s lk_math lk_mmin_c ⟨Nat.le_trans hd1 hR.1, Nat.le_trans (Nat.mul_le_mul_left 100 hd1) hR.2⟩ hcs, ?_⟩
  refine List.forall_mem_cons.mpr ⟨s_ret (pc := 113) rfl (by decide +kernel), ?_⟩
  exact fun _ h => absurd h List.not_mem_nil
def T_X1_lightestCover (E : Ex) (env : Nat → Mf) : List (Nat × Stq) := T_X1_lightestCover_0 E env ++ (T_X1_lightestCover_1 E env)
theorem ts_X1_lightestCover {p : Program} {l : Launch} {e : Env} {R : Room} {s : State} {m : MethodId} {args : Array Value} {below : List Frame} {meth : Method} {c : Code} {cells slots : Nat} {Q : State → Prop} {D : va_G} {C : CI3} {A : Nat → Prop} {ad : Nat → Nat} {E : Ex} {env : Nat → Mf} {d : Nat} (X : Cx p R s m args c cX1_lightestCover 10 RX1 D C A ad SH E) (hR : d ≤ R.frames ∧ 100 * d ≤ R.locals) (hcs : cells ≤ R.cells ∧ slots ≤ R.slots) (hd1 : 1 ≤ d) {d_X1_busiest : Nat} (h_X1_busiest : CM l SH E yX1_busiest cX1_busiest 6 (some .int) d_X1_busiest (env 7)) (hd_X1_busiest : d_X1_busiest + 1 ≤ d) {d_X1_weightOf : Nat} (h_X1_weightOf : CM l SH E yX1_weightOf cX1_weightOf 4 (some .int) d_X1_weightOf (env 8)) (hd_X1_weightOf : d_X1_weightOf + 1 ≤ d) {d_X1_lightestCover : Nat} (h_X1_lightestCover : CM l SH E yX1_lightestCover cX1_lightestCover 10 (some .int) d_X1_lightestCover (env 6)) (hd_X1_lightestCover : d_X1_lightestCover + 1 ≤ d) {d_J6_bitCount_0f7a4 : Nat} (h_J6_bitCount_0f7a4 : CM l SH E yJ6_bitCount_0f7a4 cJ6_bitCount_0f7a4 1 (some .int) d_J6_bitCount_0f7a4 (env 118)) (hd_J6_bitCount_0f7a4 : d_J6_bitCount_0f7a4 + 1 ≤ d) : ∀ q ∈ T_X1_lightestCover E env, SS p l e R s m args below meth c cells slots Q D C A ad SH 10 cX1_lightestCover (some .int) q.1 q.2 := List.forall_mem_append.mpr ⟨ts_X1_lightestCover_0 X hR hcs hd1 h_X1_busiest hd_X1_busiest h_X1_weightOf hd_X1_weightOf h_X1_lightestCover hd_X1_lightestCover h_J6_bitCount_0f7a4 hd_J6_bitCount_0f7a4, ts_X1_lightestCover_1 X hR hcs hd1 h_X1_busiest hd_X1_busiest h_X1_weightOf hd_X1_weightOf h_X1_lightestCover hd_X1_lightestCover h_J6_bitCount_0f7a4 hd_J6_bitCount_0f7a4⟩
def T_X1_busiest (E : Ex) (env : Nat → Mf) : List (Nat × Stq) := [(0, o_ic 1 (-1)),
  (1, o_is 2 2),
  (2, o_ic 3 (0)),
  (3, o_is 4 3),
  (4, o_ic 5 (0)),
  (5, o_is 7 4),
  (7, o_il 9 4),
  (9, o_ic 11 (16)),
  (11, o_ge 57 14),
  (14, o_il 15 1),
  (15, o_il 17 4),
  (17, o_b2 18 (fun x y => x >>> (y &&& 31))),
  (18, o_ic 19 (1)),
  (19, o_b2 20 (fun x y => x &&& y)),
  (20, o_ic 21 (1)),
  (21, o_ne 36 24),
  (24, o_al 25 0),
  (25, o_il 27 4),
  (27, o_ia SH E 28),
  (28, o_il 29 1),
  (29, o_b2 30 (fun x y => x &&& y)),
  (30, o_call env 33 118 1),
  (33, o_goto 37),
  (36, o_ic 37 (0)),
  (37, o_is 39 5),
  (39, o_il 41 5),
  (41, o_il 42 3),
  (42, o_le 51 45),
  (45, o_il 47 4),
  (47, o_is 48 2),
  (48, o_il 50 5),
  (50, o_is 51 3),
  (51, o_inc 54 4 (1)),
  (54, o_goto 7),
  (57, o_il 58 2),
  (58, o_ret)]
set_option maxRecDepth 100000 in
set_option maxHeartbeats 4000000 in
theorem ts_X1_busiest {p : Program} {l : Launch} {e : Env} {R : Room} {s : State} {m : MethodId} {args : Array Value} {below : List Frame} {meth : Method} {c : Code} {cells slots : Nat} {Q : State → Prop} {D : va_G} {C : CI3} {A : Nat → Prop} {ad : Nat → Nat} {E : Ex} {env : Nat → Mf} {d : Nat} (X : Cx p R s m args c cX1_busiest 6 RX1 D C A ad SH E) (hR : d ≤ R.frames ∧ 100 * d ≤ R.locals) (hcs : cells ≤ R.cells ∧ slots ≤ R.slots) {d_J6_bitCount_0f7a4 : Nat} (h_J6_bitCount_0f7a4 : CM l SH E yJ6_bitCount_0f7a4 cJ6_bitCount_0f7a4 1 (some .int) d_J6_bitCount_0f7a4 (env 118)) (hd_J6_bitCount_0f7a4 : d_J6_bitCount_0f7a4 + 1 ≤ d) : ∀ q ∈ T_X1_busiest E env, SS p l e R s m args below meth c cells slots Q D C A ad SH 6 cX1_busiest (some .int) q.1 q.2 := by
  unfold T_X1_busiest
  refine List.forall_mem_cons.mpr ⟨s_iconst (pc := 0) X (n := -1) (by decide +kernel) (by decide), ?_⟩
  refine List.forall_mem_cons.mpr ⟨s_istore_n (pc := 1) X (i := 2) (by decide +kernel) rfl (by decide), ?_⟩
  refine List.forall_mem_cons.mpr ⟨s_iconst (pc := 2) X (n := 0) (by decide +kernel) (by decide), ?_⟩
  refine List.forall_mem_cons.mpr ⟨s_istore_n (pc := 3) X (i := 3) (by decide +kernel) rfl (by decide), ?_⟩
  refine List.forall_mem_cons.mpr ⟨s_iconst (pc := 4) X (n := 0) (by decide +kernel) (by decide), ?_⟩
  refine List.forall_mem_cons.mpr ⟨s_istore (pc := 5) X (by decide +kernel) (by decide), ?_⟩
  refine List.forall_mem_cons.mpr ⟨s_iload (pc := 7) X (by decide +kernel), ?_⟩
  refine List.forall_mem_cons.mpr ⟨s_bipush (pc := 9) X (n := 16) (by decide +kernel) (by decide), ?_⟩
  refine List.forall_mem_cons.mpr ⟨s_ge (pc := 11) X (off := 46) (by decide +kernel) (by decide), ?_⟩
  refine List.forall_mem_cons.mpr ⟨s_iload_n (pc := 14) X (i := 1) (by decide +kernel) rfl, ?_⟩
  refine List.forall_mem_cons.mpr ⟨s_iload (pc := 15) X (by decide +kernel), ?_⟩
  refine List.forall_mem_cons.mpr ⟨s_ishr (pc := 17) X (by decide +kernel), ?_⟩
  refine List.forall_mem_cons.mpr ⟨s_iconst (pc := 18) X (n := 1) (by decide +kernel) (by decide), ?_⟩
  refine List.forall_mem_cons.mpr ⟨s_iand (pc := 19) X (by decide +kernel), ?_⟩
  refine List.forall_mem_cons.mpr ⟨s_iconst (pc := 20) X (n := 1) (by decide +kernel) (by decide), ?_⟩
  refine List.forall_mem_cons.mpr ⟨s_ne (pc := 21) X (off := 15) (by decide +kernel) (by decide), ?_⟩
  refine List.forall_mem_cons.mpr ⟨s_aload_n (pc := 24) X (i := 0) (by decide +kernel) rfl, ?_⟩
  refine List.forall_mem_cons.mpr ⟨s_iload (pc := 25) X (by decide +kernel), ?_⟩
  refine List.forall_mem_cons.mpr ⟨s_iald (pc := 27) X (by decide +kernel), ?_⟩
  refine List.forall_mem_cons.mpr ⟨s_iload_n (pc := 28) X (i := 1) (by decide +kernel) rfl, ?_⟩
  refine List.forall_mem_cons.mpr ⟨s_iand (pc := 29) X (by decide +kernel), ?_⟩
  refine List.forall_mem_cons.mpr ⟨s_callS (pc := 30) X (idx := 58) (by decide +kernel) h_J6_bitCount_0f7a4 lk_RX1_58 ls_J6_bitCount_0f7a4 li_RJ6 lc_J6_bitCount_0f7a4 hy_J6_bitCount_0f7a4 ⟨Nat.le_trans hd_J6_bitCount_0f7a4 hR.1, Nat.le_trans (by have := hd_J6_bitCount_0f7a4; omega) hR.2⟩ hcs, ?_⟩
  refine List.forall_mem_cons.mpr ⟨s_goto (pc := 33) X (off := 4) (by decide +kernel) (by decide), ?_⟩
  refine List.forall_mem_cons.mpr ⟨s_iconst (pc := 36) X (n := 0) (by decide +kernel) (by decide), ?_⟩
  refine List.forall_mem_cons.mpr ⟨s_istore (pc := 37) X (by decide +kernel) (by decide), ?_⟩
  refine List.forall_mem_cons.mpr ⟨s_iload (pc := 39) X (by decide +kernel), ?_⟩
  refine List.forall_mem_cons.mpr ⟨s_iload_n (pc := 41) X (i := 3) (by decide +kernel) rfl, ?_⟩
  refine List.forall_mem_cons.mpr ⟨s_le (pc := 42) X (off := 9) (by decide +kernel) (by decide), ?_⟩
  refine List.forall_mem_cons.mpr ⟨s_iload (pc := 45) X (by decide +kernel), ?_⟩
  refine List.forall_mem_cons.mpr ⟨s_istore_n (pc := 47) X (i := 2) (by decide +kernel) rfl (by decide), ?_⟩
  refine List.forall_mem_cons.mpr ⟨s_iload (pc := 48) X (by decide +kernel), ?_⟩
  refine List.forall_mem_cons.mpr ⟨s_istore_n (pc := 50) X (i := 3) (by decide +kernel) rfl (by decide), ?_⟩
  refine List.forall_mem_cons.mpr ⟨s_iinc (pc := 51) X (n := 1) (by decide +kernel) (by decide) (by decide), ?_⟩
  refine List.forall_mem_cons.mpr ⟨s_goto (pc := 54) X (off := -47) (by decide +kernel) (by decide), ?_⟩
  refine List.forall_mem_cons.mpr ⟨s_iload_n (pc := 57) X (i := 2) (by decide +kernel) rfl, ?_⟩
  refine List.forall_mem_cons.mpr ⟨s_ret (pc := 58) rfl (by decide +kernel), ?_⟩
  exact fun _ h => absurd h List.not_mem_nil
def T_X1_weightOf (E : Ex) (env : Nat → Mf) : List (Nat × Stq) := [(0, o_ic 1 (0)),
  (1, o_is 2 2),
  (2, o_ic 3 (0)),
  (3, o_is 4 3),
  (4, o_il 5 3),
  (5, o_ic 7 (16)),
  (7, o_ge 31 10),
  (10, o_il 11 1),
  (11, o_il 12 3),
  (12, o_b2 13 (fun x y => x >>> (y &&& 31))),
  (13, o_ic 14 (1)),
  (14, o_b2 15 (fun x y => x &&& y)),
  (15, o_ic 16 (1)),
  (16, o_ne 25 19),
  (19, o_il 20 2),
  (20, o_al 21 0),
  (21, o_il 22 3),
  (22, o_ia SH E 23),
  (23, o_b2 24 (fun x y => x + y)),
  (24, o_is 25 2),
  (25, o_inc 28 3 (1)),
  (28, o_goto 4),
  (31, o_il 32 2),
  (32, o_ret)]
set_option maxRecDepth 100000 in
set_option maxHeartbeats 4000000 in
theorem ts_X1_weightOf {p : Program} {l : Launch} {e : Env} {R : Room} {s : State} {m : MethodId} {args : Array Value} {below : List Frame} {meth : Method} {c : Code} {cells slots : Nat} {Q : State → Prop} {D : va_G} {C : CI3} {A : Nat → Prop} {ad : Nat → Nat} {E : Ex} {env : Nat → Mf} {d : Nat} (X : Cx p R s m args c cX1_weightOf 4 RX1 D C A ad SH E) (hR : d ≤ R.frames ∧ 100 * d ≤ R.locals) (hcs : cells ≤ R.cells ∧ slots ≤ R.slots) : ∀ q ∈ T_X1_weightOf E env, SS p l e R s m args below meth c cells slots Q D C A ad SH 4 cX1_weightOf (some .int) q.1 q.2 := by
  unfold T_X1_weightOf
  refine List.forall_mem_cons.mpr ⟨s_iconst (pc := 0) X (n := 0) (by decide +kernel) (by decide), ?_⟩
  refine List.forall_mem_cons.mpr ⟨s_istore_n (pc := 1) X (i := 2) (by decide +kernel) rfl (by decide), ?_⟩
  refine List.forall_mem_cons.mpr ⟨s_iconst (pc := 2) X (n := 0) (by decide +kernel) (by decide), ?_⟩
  refine List.forall_mem_cons.mpr ⟨s_istore_n (pc := 3) X (i := 3) (by decide +kernel) rfl (by decide), ?_⟩
  refine List.forall_mem_cons.mpr ⟨s_iload_n (pc := 4) X (i := 3) (by decide +kernel) rfl, ?_⟩
  refine List.forall_mem_cons.mpr ⟨s_bipush (pc := 5) X (n := 16) (by decide +kernel) (by decide), ?_⟩
  refine List.forall_mem_cons.mpr ⟨s_ge (pc := 7) X (off := 24) (by decide +kernel) (by decide), ?_⟩
  refine List.forall_mem_cons.mpr ⟨s_iload_n (pc := 10) X (i := 1) (by decide +kernel) rfl, ?_⟩
  refine List.forall_mem_cons.mpr ⟨s_iload_n (pc := 11) X (i := 3) (by decide +kernel) rfl, ?_⟩
  refine List.forall_mem_cons.mpr ⟨s_ishr (pc := 12) X (by decide +kernel), ?_⟩
  refine List.forall_mem_cons.mpr ⟨s_iconst (pc := 13) X (n := 1) (by decide +kernel) (by decide), ?_⟩
  refine List.forall_mem_cons.mpr ⟨s_iand (pc := 14) X (by decide +kernel), ?_⟩
  refine List.forall_mem_cons.mpr ⟨s_iconst (pc := 15) X (n := 1) (by decide +kernel) (by decide), ?_⟩
  refine List.forall_mem_cons.mpr ⟨s_ne (pc := 16) X (off := 9) (by decide +kernel) (by decide), ?_⟩
  refine List.forall_mem_cons.mpr ⟨s_iload_n (pc := 19) X (i := 2) (by decide +kernel) rfl, ?_⟩
  refine List.forall_mem_cons.mpr ⟨s_aload_n (pc := 20) X (i := 0) (by decide +kernel) rfl, ?_⟩
  refine List.forall_mem_cons.mpr ⟨s_iload_n (pc := 21) X (i := 3) (by decide +kernel) rfl, ?_⟩
  refine List.forall_mem_cons.mpr ⟨s_iald (pc := 22) X (by decide +kernel), ?_⟩
  refine List.forall_mem_cons.mpr ⟨s_iadd (pc := 23) X (by decide +kernel), ?_⟩
  refine List.forall_mem_cons.mpr ⟨s_istore_n (pc := 24) X (i := 2) (by decide +kernel) rfl (by decide), ?_⟩
  refine List.forall_mem_cons.mpr ⟨s_iinc (pc := 25) X (n := 1) (by decide +kernel) (by decide) (by decide), ?_⟩
  refine List.forall_mem_cons.mpr ⟨s_goto (pc := 28) X (off := -24) (by decide +kernel) (by decide), ?_⟩
  refine List.forall_mem_cons.mpr ⟨s_iload_n (pc := 31) X (i := 2) (by decide +kernel) rfl, ?_⟩
  refine List.forall_mem_cons.mpr ⟨s_ret (pc := 32) rfl (by decide +kernel), ?_⟩
  exact fun _ h => absurd h List.not_mem_nil
def T_X2_empty (E : Ex) (env : Nat → Mf) : List (Nat × Stq) := [(0, o_al 1 0),
  (1, o_il 2 1),
  (2, o_pI SH 5 2 0),
  (5, o_al 6 0),
  (6, o_gR SH 9 2 1),
  (9, o_ic 10 (-1)),
  (10, o_call env 13 119 2),
  (13, o_al 14 0),
  (14, o_gR SH 17 2 5),
  (17, o_ic 18 (0)),
  (18, o_call env 21 119 2),
  (21, o_retV)]
set_option maxRecDepth 100000 in
set_option maxHeartbeats 4000000 in
theorem ts_X2_empty {p : Program} {l : Launch} {e : Env} {R : Room} {s : State} {m : MethodId} {args : Array Value} {below : List Frame} {meth : Method} {c : Code} {cells slots : Nat} {Q : State → Prop} {D : va_G} {C : CI3} {A : Nat → Prop} {ad : Nat → Nat} {E : Ex} {env : Nat → Mf} {d : Nat} (X : Cx p R s m args c cX2_empty 2 RX2 D C A ad SH E) (hR : d ≤ R.frames ∧ 100 * d ≤ R.locals) (hcs : cells ≤ R.cells ∧ slots ≤ R.slots) {d_J7_fill_53178 : Nat} (h_J7_fill_53178 : CM l SH E yJ7_fill_53178 cJ7_fill_53178 4 (none) d_J7_fill_53178 (env 119)) (hd_J7_fill_53178 : d_J7_fill_53178 + 1 ≤ d) : ∀ q ∈ T_X2_empty E env, SS p l e R s m args below meth c cells slots Q D C A ad SH 2 cX2_empty (none) q.1 q.2 := by
  unfold T_X2_empty
  refine List.forall_mem_cons.mpr ⟨s_aload_n (pc := 0) X (i := 0) (by decide +kernel) rfl, ?_⟩
  refine List.forall_mem_cons.mpr ⟨s_iload_n (pc := 1) X (i := 1) (by decide +kernel) rfl, ?_⟩
  refine List.forall_mem_cons.mpr ⟨s_putI (pc := 2) X (idx := 9) (by decide +kernel) inTX2 tyX2 tyX2_ok nmX2 rfl (by decide) lk_RX2_9 rfl rfl (by decide +kernel), ?_⟩
  refine List.forall_mem_cons.mpr ⟨s_aload_n (pc := 5) X (i := 0) (by decide +kernel) rfl, ?_⟩
  refine List.forall_mem_cons.mpr ⟨s_getR (pc := 6) X (idx := 15) (by decide +kernel) inTX2 rfl (by decide) lk_RX2_15 rfl, ?_⟩
  refine List.forall_mem_cons.mpr ⟨s_iconst (pc := 9) X (n := -1) (by decide +kernel) (by decide), ?_⟩
  refine List.forall_mem_cons.mpr ⟨s_callS (pc := 10) X (idx := 31) (by decide +kernel) h_J7_fill_53178 lk_RX2_31 ls_J7_fill_53178 li_RJ7 lc_J7_fill_53178 hy_J7_fill_53178 ⟨Nat.le_trans hd_J7_fill_53178 hR.1, Nat.le_trans (by have := hd_J7_fill_53178; omega) hR.2⟩ hcs, ?_⟩
  refine List.forall_mem_cons.mpr ⟨s_aload_n (pc := 13) X (i := 0) (by decide +kernel) rfl, ?_⟩
  refine List.forall_mem_cons.mpr ⟨s_getR (pc := 14) X (idx := 28) (by decide +kernel) inTX2 rfl (by decide) lk_RX2_28 rfl, ?_⟩
  refine List.forall_mem_cons.mpr ⟨s_iconst (pc := 17) X (n := 0) (by decide +kernel) (by decide), ?_⟩
  refine List.forall_mem_cons.mpr ⟨s_callS (pc := 18) X (idx := 31) (by decide +kernel) h_J7_fill_53178 lk_RX2_31 ls_J7_fill_53178 li_RJ7 lc_J7_fill_53178 hy_J7_fill_53178 ⟨Nat.le_trans hd_J7_fill_53178 hR.1, Nat.le_trans (by have := hd_J7_fill_53178; omega) hR.2⟩ hcs, ?_⟩
  refine List.forall_mem_cons.mpr ⟨s_retV (pc := 21) (by decide +kernel), ?_⟩
  exact fun _ h => absurd h List.not_mem_nil
def T_X2_copyFrom_0 (E : Ex) (env : Nat → Mf) : List (Nat × Stq) := [(0, o_al 1 0),
  (1, o_al 2 1),
  (2, o_gI SH 5 2 0),
  (5, o_pI SH 8 2 0),
  (8, o_al 9 1),
  (9, o_gR SH 12 2 1),
  (12, o_ic 13 (0)),
  (13, o_al 14 0),
  (14, o_gR SH 17 2 1),
  (17, o_ic 18 (0)),
  (18, o_ic 20 (16)),
  (20, o_copy SH 23),
  (23, o_al 24 1),
  (24, o_gR SH 27 2 2),
  (27, o_ic 28 (0)),
  (28, o_al 29 0),
  (29, o_gR SH 32 2 2),
  (32, o_ic 33 (0)),
  (33, o_ic 35 (16)),
  (35, o_copy SH 38),
  (38, o_al 39 1),
  (39, o_gR SH 42 2 3),
  (42, o_ic 43 (0)),
  (43, o_al 44 0),
  (44, o_gR SH 47 2 3),
  (47, o_ic 48 (0)),
  (48, o_ic 50 (16)),
  (50, o_copy SH 53),
  (53, o_al 54 1),
  (54, o_gR SH 57 2 4),
  (57, o_ic 58 (0)),
  (58, o_al 59 0),
  (59, o_gR SH 62 2 4),
  (62, o_ic 63 (0)),
  (63, o_ic 65 (64)),
  (65, o_copy SH 68),
  (68, o_al 69 1),
  (69, o_gR SH 72 2 5),
  (72, o_ic 73 (0)),
  (73, o_al 74 0)]
set_option maxRecDepth 100000 in
set_option maxHeartbeats 4000000 in
theorem ts_X2_copyFrom_0 {p : Program} {l : Launch} {e : Env} {R : Room} {s : State} {m : MethodId} {args : Array Value} {below : List Frame} {meth : Method} {c : Code} {cells slots : Nat} {Q : State → Prop} {D : va_G} {C : CI3} {A : Nat → Prop} {ad : Nat → Nat} {E : Ex} {env : Nat → Mf} {d : Nat} (X : Cx p R s m args c cX2_copyFrom 2 RX2 D C A ad SH E) (hR : d ≤ R.frames ∧ 100 * d ≤ R.locals) (hcs : cells ≤ R.cells ∧ slots ≤ R.slots) (hd1 : 1 ≤ d) : ∀ q ∈ T_X2_copyFrom_0 E env, SS p l e R s m args below meth c cells slots Q D C A ad SH 2 cX2_copyFrom (none) q.1 q.2 := by
  unfold T_X2_copyFrom_0
  refine List.forall_mem_cons.mpr ⟨s_aload_n (pc := 0) X (i := 0) (by decide +kernel) rfl, ?_⟩
  refine List.forall_mem_cons.mpr ⟨s_aload_n (pc := 1) X (i := 1) (by decide +kernel) rfl, ?_⟩
  refine List.forall_mem_cons.mpr ⟨s_getI (pc := 2) X (idx := 9) (by decide +kernel) inTX2 rfl (by decide) lk_RX2_9 rfl, ?_⟩
  refine List.forall_mem_cons.mpr ⟨s_putI (pc := 5) X (idx := 9) (by decide +kernel) inTX2 tyX2 tyX2_ok nmX2 rfl (by decide) lk_RX2_9 rfl rfl (by decide +kernel), ?_⟩
  refine List.forall_mem_cons.mpr ⟨s_aload_n (pc := 8) X (i := 1) (by decide +kernel) rfl, ?_⟩
  refine List.forall_mem_cons.mpr ⟨s_getR (pc := 9) X (idx := 15) (by decide +kernel) inTX2 rfl (by decide) lk_RX2_15 rfl, ?_⟩
  refine List.forall_mem_cons.mpr ⟨s_iconst (pc := 12) X (n := 0) (by decide +kernel) (by decide), ?_⟩
  refine List.forall_mem_cons.mpr ⟨s_aload_n (pc := 13) X (i := 0) (by decide +kernel) rfl, ?_⟩
  refine List.forall_mem_cons.mpr ⟨s_getR (pc := 14) X (idx := 15) (by decide +kernel) inTX2 rfl (by decide) lk_RX2_15 rfl, ?_⟩
  refine List.forall_mem_cons.mpr ⟨s_iconst (pc := 17) X (n := 0) (by decide +kernel) (by decide), ?_⟩
  refine List.forall_mem_cons.mpr ⟨s_bipush (pc := 18) X (n := 16) (by decide +kernel) (by decide), ?_⟩
  refine List.forall_mem_cons.mpr ⟨s_copy (pc := 20) X (idx := 37) (by decide +kernel) lk_RX2_37 lk_nat lk_acs lk_sys ⟨Nat.le_trans hd1 hR.1, Nat.le_trans (Nat.mul_le_mul_left 100 hd1) hR.2⟩, ?_⟩
  refine List.forall_mem_cons.mpr ⟨s_aload_n (pc := 23) X (i := 1) (by decide +kernel) rfl, ?_⟩
  refine List.forall_mem_cons.mpr ⟨s_getR (pc := 24) X (idx := 19) (by decide +kernel) inTX2 rfl (by decide) lk_RX2_19 rfl, ?_⟩
  refine List.forall_mem_cons.mpr ⟨s_iconst (pc := 27) X (n := 0) (by decide +kernel) (by decide), ?_⟩
  refine List.forall_mem_cons.mpr ⟨s_aload_n (pc := 28) X (i := 0) (by decide +kernel) rfl, ?_⟩
  refine List.forall_mem_cons.mpr ⟨s_getR (pc := 29) X (idx := 19) (by decide +kernel) inTX2 rfl (by decide) lk_RX2_19 rfl, ?_⟩
  refine List.forall_mem_cons.mpr ⟨s_iconst (pc := 32) X (n := 0) (by decide +kernel) (by decide), ?_⟩
  refine List.forall_mem_cons.mpr ⟨s_bipush (pc := 33) X (n := 16) (by decide +kernel) (by decide), ?_⟩
  refine List.forall_mem_cons.mpr ⟨s_copy (pc := 35) X (idx := 37) (by decide +kernel) lk_RX2_37 lk_nat lk_acs lk_sys ⟨Nat.le_trans hd1 hR.1, Nat.le_trans (Nat.mul_le_mul_left 100 hd1) hR.2⟩, ?_⟩
  refine List.forall_mem_cons.mpr ⟨s_aload_n (pc := 38) X (i := 1) (by decide +kernel) rfl, ?_⟩
  refine List.forall_mem_cons.mpr ⟨s_getR (pc := 39) X (idx := 22) (by decide +kernel) inTX2 rfl (by decide) lk_RX2_22 rfl, ?_⟩
  refine List.forall_mem_cons.mpr ⟨s_iconst (pc := 42) X (n := 0) (by decide +kernel) (by decide), ?_⟩
  refine List.forall_mem_cons.mpr ⟨s_aload_n (pc := 43) X (i := 0) (by decide +kernel) rfl, ?_⟩
  refine List.forall_mem_cons.mpr ⟨s_getR (pc := 44) X (idx := 22) (by decide +kernel) inTX2 rfl (by decide) lk_RX2_22 rfl, ?_⟩
  refine List.forall_mem_cons.mpr ⟨s_iconst (pc := 47) X (n := 0) (by decide +kernel) (by decide), ?_⟩
  refine List.forall_mem_cons.mpr ⟨s_bipush (pc := 48) X (n := 16) (by decide +kernel) (by decide), ?_⟩
  refine List.forall_mem_cons.mpr ⟨s_copy (pc := 50) X (idx := 37) (by decide +kernel) lk_RX2_37 lk_nat lk_acs lk_sys ⟨Nat.le_trans hd1 hR.1, Nat.le_trans (Nat.mul_le_mul_left 100 hd1) hR.2⟩, ?_⟩
  refine List.forall_mem_cons.mpr ⟨s_aload_n (pc := 53) X (i := 1) (by decide +kernel) rfl, ?_⟩
  refine List.forall_mem_cons.mpr ⟨s_getR (pc := 54) X (idx := 25) (by decide +kernel) inTX2 rfl (by decide) lk_RX2_25 rfl, ?_⟩
  refine List.forall_mem_cons.mpr ⟨s_iconst (pc := 57) X (n := 0) (by decide +kernel) (by decide), ?_⟩
  refine List.forall_mem_cons.mpr ⟨s_aload_n (pc := 58) X (i := 0) (by decide +kernel) rfl, ?_⟩
  refine List.forall_mem_cons.mpr ⟨s_getR (pc := 59) X (idx := 25) (by decide +kernel) inTX2 rfl (by decide) lk_RX2_25 rfl, ?_⟩
  refine List.forall_mem_cons.mpr ⟨s_iconst (pc := 62) X (n := 0) (by decide +kernel) (by decide), ?_⟩
  refine List.forall_mem_cons.mpr ⟨s_bipush (pc := 63) X (n := 64) (by decide +kernel) (by decide), ?_⟩
  refine List.forall_mem_cons.mpr ⟨s_copy (pc := 65) X (idx := 37) (by decide +kernel) lk_RX2_37 lk_nat lk_acs lk_sys ⟨Nat.le_trans hd1 hR.1, Nat.le_trans (Nat.mul_le_mul_left 100 hd1) hR.2⟩, ?_⟩
  refine List.forall_mem_cons.mpr ⟨s_aload_n (pc := 68) X (i := 1) (by decide +kernel) rfl, ?_⟩
  refine List.forall_mem_cons.mpr ⟨s_getR (pc := 69) X (idx := 28) (by decide +kernel) inTX2 rfl (by decide) lk_RX2_28 rfl, ?_⟩
  refine List.forall_mem_cons.mpr ⟨s_iconst (pc := 72) X (n := 0) (by decide +kernel) (by decide), ?_⟩
  refine List.forall_mem_cons.mpr ⟨s_aload_n (pc := 73) X (i := 0) (by decide +kernel) rfl, ?_⟩
  exact fun _ h => absurd h List.not_mem_nil
def T_X2_copyFrom_1 (E : Ex) (env : Nat → Mf) : List (Nat × Stq) := [(74, o_gR SH 77 2 5),
  (77, o_ic 78 (0)),
  (78, o_ic 79 (4)),
  (79, o_copy SH 82),
  (82, o_retV)]
set_option maxRecDepth 100000 in
set_option maxHeartbeats 4000000 in
theorem ts_X2_copyFrom_1 {p : Program} {l : Launch} {e : Env} {R : Room} {s : State} {m : MethodId} {args : Array Value} {below : List Frame} {meth : Method} {c : Code} {cells slots : Nat} {Q : State → Prop} {D : va_G} {C : CI3} {A : Nat → Prop} {ad : Nat → Nat} {E : Ex} {env : Nat → Mf} {d : Nat} (X : Cx p R s m args c cX2_copyFrom 2 RX2 D C A ad SH E) (hR : d ≤ R.frames ∧ 100 * d ≤ R.locals) (hcs : cells ≤ R.cells ∧ slots ≤ R.slots) (hd1 : 1 ≤ d) : ∀ q ∈ T_X2_copyFrom_1 E env, SS p l e R s m args below meth c cells slots Q D C A ad SH 2 cX2_copyFrom (none) q.1 q.2 := by
  unfold T_X2_copyFrom_1
  refine List.forall_mem_cons.mpr ⟨s_getR (pc := 74) X (idx := 28) (by decide +kernel) inTX2 rfl (by decide) lk_RX2_28 rfl, ?_⟩
  refine List.forall_mem_cons.mpr ⟨s_iconst (pc := 77) X (n := 0) (by decide +kernel) (by decide), ?_⟩
  refine List.forall_mem_cons.mpr ⟨s_iconst (pc := 78) X (n := 4) (by decide +kernel) (by decide), ?_⟩
  refine List.forall_mem_cons.mpr ⟨s_copy (pc := 79) X (idx := 37) (by decide +kernel) lk_RX2_37 lk_nat lk_acs lk_sys ⟨Nat.le_trans hd1 hR.1, Nat.le_trans (Nat.mul_le_mul_left 100 hd1) hR.2⟩, ?_⟩
  refine List.forall_mem_cons.mpr ⟨s_retV (pc := 82) (by decide +kernel), ?_⟩
  exact fun _ h => absurd h List.not_mem_nil
def T_X2_copyFrom (E : Ex) (env : Nat → Mf) : List (Nat × Stq) := T_X2_copyFrom_0 E env ++ (T_X2_copyFrom_1 E env)
theorem ts_X2_copyFrom {p : Program} {l : Launch} {e : Env} {R : Room} {s : State} {m : MethodId} {args : Array Value} {below : List Frame} {meth : Method} {c : Code} {cells slots : Nat} {Q : State → Prop} {D : va_G} {C : CI3} {A : Nat → Prop} {ad : Nat → Nat} {E : Ex} {env : Nat → Mf} {d : Nat} (X : Cx p R s m args c cX2_copyFrom 2 RX2 D C A ad SH E) (hR : d ≤ R.frames ∧ 100 * d ≤ R.locals) (hcs : cells ≤ R.cells ∧ slots ≤ R.slots) (hd1 : 1 ≤ d) : ∀ q ∈ T_X2_copyFrom E env, SS p l e R s m args below meth c cells slots Q D C A ad SH 2 cX2_copyFrom (none) q.1 q.2 := List.forall_mem_append.mpr ⟨ts_X2_copyFrom_0 X hR hcs hd1 , ts_X2_copyFrom_1 X hR hcs hd1 ⟩
def T_X2_hasRow (E : Ex) (env : Nat → Mf) : List (Nat × Stq) := [(0, o_il 1 1),
  (1, o_call env 4 56 1),
  (4, o_eq0 21 7),
  (7, o_al 8 0),
  (8, o_gR SH 11 2 1),
  (11, o_il 12 1),
  (12, o_ia SH E 13),
  (13, o_ic 14 (-1)),
  (14, o_eq 21 17),
  (17, o_ic 18 (1)),
  (18, o_goto 22),
  (21, o_ic 22 (0)),
  (22, o_retZ)]
set_option maxRecDepth 100000 in
set_option maxHeartbeats 4000000 in
theorem ts_X2_hasRow {p : Program} {l : Launch} {e : Env} {R : Room} {s : State} {m : MethodId} {args : Array Value} {below : List Frame} {meth : Method} {c : Code} {cells slots : Nat} {Q : State → Prop} {D : va_G} {C : CI3} {A : Nat → Prop} {ad : Nat → Nat} {E : Ex} {env : Nat → Mf} {d : Nat} (X : Cx p R s m args c cX2_hasRow 2 RX2 D C A ad SH E) (hR : d ≤ R.frames ∧ 100 * d ≤ R.locals) (hcs : cells ≤ R.cells ∧ slots ≤ R.slots) {d_X4_isSlot : Nat} (h_X4_isSlot : CM l SH E yX4_isSlot cX4_isSlot 1 (some .boolean) d_X4_isSlot (env 56)) (hd_X4_isSlot : d_X4_isSlot + 1 ≤ d) : ∀ q ∈ T_X2_hasRow E env, SS p l e R s m args below meth c cells slots Q D C A ad SH 2 cX2_hasRow (some .boolean) q.1 q.2 := by
  unfold T_X2_hasRow
  refine List.forall_mem_cons.mpr ⟨s_iload_n (pc := 0) X (i := 1) (by decide +kernel) rfl, ?_⟩
  refine List.forall_mem_cons.mpr ⟨s_callSN (pc := 1) X (idx := 43) (by decide +kernel) h_X4_isSlot (by simp [NW]) ls_X4_isSlot li_RX4 lc_X4_isSlot hy_X4_isSlot ⟨Nat.le_trans hd_X4_isSlot hR.1, Nat.le_trans (by have := hd_X4_isSlot; omega) hR.2⟩ hcs, ?_⟩
  refine List.forall_mem_cons.mpr ⟨s_eq0 (pc := 4) X (off := 17) (by decide +kernel) (by decide), ?_⟩
  refine List.forall_mem_cons.mpr ⟨s_aload_n (pc := 7) X (i := 0) (by decide +kernel) rfl, ?_⟩
  refine List.forall_mem_cons.mpr ⟨s_getR (pc := 8) X (idx := 15) (by decide +kernel) inTX2 rfl (by decide) lk_RX2_15 rfl, ?_⟩
  refine List.forall_mem_cons.mpr ⟨s_iload_n (pc := 11) X (i := 1) (by decide +kernel) rfl, ?_⟩
  refine List.forall_mem_cons.mpr ⟨s_iald (pc := 12) X (by decide +kernel), ?_⟩
  refine List.forall_mem_cons.mpr ⟨s_iconst (pc := 13) X (n := -1) (by decide +kernel) (by decide), ?_⟩
  refine List.forall_mem_cons.mpr ⟨s_eq (pc := 14) X (off := 7) (by decide +kernel) (by decide), ?_⟩
  refine List.forall_mem_cons.mpr ⟨s_iconst (pc := 17) X (n := 1) (by decide +kernel) (by decide), ?_⟩
  refine List.forall_mem_cons.mpr ⟨s_goto (pc := 18) X (off := 4) (by decide +kernel) (by decide), ?_⟩
  refine List.forall_mem_cons.mpr ⟨s_iconst (pc := 21) X (n := 0) (by decide +kernel) (by decide), ?_⟩
  refine List.forall_mem_cons.mpr ⟨s_retZ (pc := 22) (by decide +kernel), ?_⟩
  exact fun _ h => absurd h List.not_mem_nil
def T_X2_hasColumn (E : Ex) (env : Nat → Mf) : List (Nat × Stq) := [(0, o_il 1 1),
  (1, o_lt0 16 4),
  (4, o_il 5 1),
  (5, o_al 6 0),
  (6, o_gI SH 9 2 0),
  (9, o_ge 16 12),
  (12, o_ic 13 (1)),
  (13, o_goto 17),
  (16, o_ic 17 (0)),
  (17, o_retZ)]
set_option maxRecDepth 100000 in
set_option maxHeartbeats 4000000 in
theorem ts_X2_hasColumn {p : Program} {l : Launch} {e : Env} {R : Room} {s : State} {m : MethodId} {args : Array Value} {below : List Frame} {meth : Method} {c : Code} {cells slots : Nat} {Q : State → Prop} {D : va_G} {C : CI3} {A : Nat → Prop} {ad : Nat → Nat} {E : Ex} {env : Nat → Mf} {d : Nat} (X : Cx p R s m args c cX2_hasColumn 2 RX2 D C A ad SH E) (hR : d ≤ R.frames ∧ 100 * d ≤ R.locals) (hcs : cells ≤ R.cells ∧ slots ≤ R.slots) : ∀ q ∈ T_X2_hasColumn E env, SS p l e R s m args below meth c cells slots Q D C A ad SH 2 cX2_hasColumn (some .boolean) q.1 q.2 := by
  unfold T_X2_hasColumn
  refine List.forall_mem_cons.mpr ⟨s_iload_n (pc := 0) X (i := 1) (by decide +kernel) rfl, ?_⟩
  refine List.forall_mem_cons.mpr ⟨s_lt0 (pc := 1) X (off := 15) (by decide +kernel) (by decide), ?_⟩
  refine List.forall_mem_cons.mpr ⟨s_iload_n (pc := 4) X (i := 1) (by decide +kernel) rfl, ?_⟩
  refine List.forall_mem_cons.mpr ⟨s_aload_n (pc := 5) X (i := 0) (by decide +kernel) rfl, ?_⟩
  refine List.forall_mem_cons.mpr ⟨s_getI (pc := 6) X (idx := 9) (by decide +kernel) inTX2 rfl (by decide) lk_RX2_9 rfl, ?_⟩
  refine List.forall_mem_cons.mpr ⟨s_ge (pc := 9) X (off := 7) (by decide +kernel) (by decide), ?_⟩
  refine List.forall_mem_cons.mpr ⟨s_iconst (pc := 12) X (n := 1) (by decide +kernel) (by decide), ?_⟩
  refine List.forall_mem_cons.mpr ⟨s_goto (pc := 13) X (off := 4) (by decide +kernel) (by decide), ?_⟩
  refine List.forall_mem_cons.mpr ⟨s_iconst (pc := 16) X (n := 0) (by decide +kernel) (by decide), ?_⟩
  refine List.forall_mem_cons.mpr ⟨s_retZ (pc := 17) (by decide +kernel), ?_⟩
  exact fun _ h => absurd h List.not_mem_nil
def T_X2_seat (E : Ex) (env : Nat → Mf) : List (Nat × Stq) := [(0, o_al 1 0),
  (1, o_gR SH 4 2 1),
  (4, o_il 5 1),
  (5, o_il 6 2),
  (6, o_is_ SH 7),
  (7, o_al 8 0),
  (8, o_gR SH 11 2 2),
  (11, o_il 12 1),
  (12, o_il 13 3),
  (13, o_is_ SH 14),
  (14, o_al 15 0),
  (15, o_gR SH 18 2 3),
  (18, o_il 19 1),
  (19, o_ic 20 (1)),
  (20, o_is_ SH 21),
  (21, o_retV)]
set_option maxRecDepth 100000 in
set_option maxHeartbeats 4000000 in
theorem ts_X2_seat {p : Program} {l : Launch} {e : Env} {R : Room} {s : State} {m : MethodId} {args : Array Value} {below : List Frame} {meth : Method} {c : Code} {cells slots : Nat} {Q : State → Prop} {D : va_G} {C : CI3} {A : Nat → Prop} {ad : Nat → Nat} {E : Ex} {env : Nat → Mf} {d : Nat} (X : Cx p R s m args c cX2_seat 4 RX2 D C A ad SH E) (hR : d ≤ R.frames ∧ 100 * d ≤ R.locals) (hcs : cells ≤ R.cells ∧ slots ≤ R.slots) : ∀ q ∈ T_X2_seat E env, SS p l e R s m args below meth c cells slots Q D C A ad SH 4 cX2_seat (none) q.1 q.2 := by
  unfold T_X2_seat
  refine List.forall_mem_cons.mpr ⟨s_aload_n (pc := 0) X (i := 0) (by decide +kernel) rfl, ?_⟩
  refine List.forall_mem_cons.mpr ⟨s_getR (pc := 1) X (idx := 15) (by decide +kernel) inTX2 rfl (by decide) lk_RX2_15 rfl, ?_⟩
  refine List.forall_mem_cons.mpr ⟨s_iload_n (pc := 4) X (i := 1) (by decide +kernel) rfl, ?_⟩
  refine List.forall_mem_cons.mpr ⟨s_iload_n (pc := 5) X (i := 2) (by decide +kernel) rfl, ?_⟩
  refine List.forall_mem_cons.mpr ⟨s_iast (pc := 6) X (by decide +kernel), ?_⟩
  refine List.forall_mem_cons.mpr ⟨s_aload_n (pc := 7) X (i := 0) (by decide +kernel) rfl, ?_⟩
  refine List.forall_mem_cons.mpr ⟨s_getR (pc := 8) X (idx := 19) (by decide +kernel) inTX2 rfl (by decide) lk_RX2_19 rfl, ?_⟩
  refine List.forall_mem_cons.mpr ⟨s_iload_n (pc := 11) X (i := 1) (by decide +kernel) rfl, ?_⟩
  refine List.forall_mem_cons.mpr ⟨s_iload_n (pc := 12) X (i := 3) (by decide +kernel) rfl, ?_⟩
  refine List.forall_mem_cons.mpr ⟨s_iast (pc := 13) X (by decide +kernel), ?_⟩
  refine List.forall_mem_cons.mpr ⟨s_aload_n (pc := 14) X (i := 0) (by decide +kernel) rfl, ?_⟩
  refine List.forall_mem_cons.mpr ⟨s_getR (pc := 15) X (idx := 22) (by decide +kernel) inTX2 rfl (by decide) lk_RX2_22 rfl, ?_⟩
  refine List.forall_mem_cons.mpr ⟨s_iload_n (pc := 18) X (i := 1) (by decide +kernel) rfl, ?_⟩
  refine List.forall_mem_cons.mpr ⟨s_iconst (pc := 19) X (n := 1) (by decide +kernel) (by decide), ?_⟩
  refine List.forall_mem_cons.mpr ⟨s_iast (pc := 20) X (by decide +kernel), ?_⟩
  refine List.forall_mem_cons.mpr ⟨s_retV (pc := 21) (by decide +kernel), ?_⟩
  exact fun _ h => absurd h List.not_mem_nil
def T_X2_write (E : Ex) (env : Nat → Mf) : List (Nat × Stq) := [(0, o_al 1 0),
  (1, o_gR SH 4 2 4),
  (4, o_il 5 1),
  (5, o_ic 6 (4)),
  (6, o_b2 7 (fun x y => x * y)),
  (7, o_il 8 2),
  (8, o_b2 9 (fun x y => x + y)),
  (9, o_il 10 3),
  (10, o_ic 12 (100)),
  (12, o_ne 21 15),
  (15, o_ic 18 (1000)),
  (18, o_goto 22),
  (21, o_il 22 3),
  (22, o_is_ SH 23),
  (23, o_retV)]
set_option maxRecDepth 100000 in
set_option maxHeartbeats 4000000 in
theorem ts_X2_write {p : Program} {l : Launch} {e : Env} {R : Room} {s : State} {m : MethodId} {args : Array Value} {below : List Frame} {meth : Method} {c : Code} {cells slots : Nat} {Q : State → Prop} {D : va_G} {C : CI3} {A : Nat → Prop} {ad : Nat → Nat} {E : Ex} {env : Nat → Mf} {d : Nat} (X : Cx p R s m args c cX2_write 4 RX2 D C A ad SH E) (hR : d ≤ R.frames ∧ 100 * d ≤ R.locals) (hcs : cells ≤ R.cells ∧ slots ≤ R.slots) : ∀ q ∈ T_X2_write E env, SS p l e R s m args below meth c cells slots Q D C A ad SH 4 cX2_write (none) q.1 q.2 := by
  unfold T_X2_write
  refine List.forall_mem_cons.mpr ⟨s_aload_n (pc := 0) X (i := 0) (by decide +kernel) rfl, ?_⟩
  refine List.forall_mem_cons.mpr ⟨s_getR (pc := 1) X (idx := 25) (by decide +kernel) inTX2 rfl (by decide) lk_RX2_25 rfl, ?_⟩
  refine List.forall_mem_cons.mpr ⟨s_iload_n (pc := 4) X (i := 1) (by decide +kernel) rfl, ?_⟩
  refine List.forall_mem_cons.mpr ⟨s_iconst (pc := 5) X (n := 4) (by decide +kernel) (by decide), ?_⟩
  refine List.forall_mem_cons.mpr ⟨s_imul (pc := 6) X (by decide +kernel), ?_⟩
  refine List.forall_mem_cons.mpr ⟨s_iload_n (pc := 7) X (i := 2) (by decide +kernel) rfl, ?_⟩
  refine List.forall_mem_cons.mpr ⟨s_iadd (pc := 8) X (by decide +kernel), ?_⟩
  refine List.forall_mem_cons.mpr ⟨s_iload_n (pc := 9) X (i := 3) (by decide +kernel) rfl, ?_⟩
  refine List.forall_mem_cons.mpr ⟨s_bipush (pc := 10) X (n := 100) (by decide +kernel) (by decide), ?_⟩
  refine List.forall_mem_cons.mpr ⟨s_ne (pc := 12) X (off := 9) (by decide +kernel) (by decide), ?_⟩
  refine List.forall_mem_cons.mpr ⟨s_sipush (pc := 15) X (n := 1000) (by decide +kernel) (by decide), ?_⟩
  refine List.forall_mem_cons.mpr ⟨s_goto (pc := 18) X (off := 4) (by decide +kernel) (by decide), ?_⟩
  refine List.forall_mem_cons.mpr ⟨s_iload_n (pc := 21) X (i := 3) (by decide +kernel) rfl, ?_⟩
  refine List.forall_mem_cons.mpr ⟨s_iast (pc := 22) X (by decide +kernel), ?_⟩
  refine List.forall_mem_cons.mpr ⟨s_retV (pc := 23) (by decide +kernel), ?_⟩
  exact fun _ h => absurd h List.not_mem_nil
def T_X2_read (E : Ex) (env : Nat → Mf) : List (Nat × Stq) := [(0, o_al 1 0),
  (1, o_gR SH 4 2 4),
  (4, o_il 5 1),
  (5, o_ic 6 (4)),
  (6, o_b2 7 (fun x y => x * y)),
  (7, o_il 8 2),
  (8, o_b2 9 (fun x y => x + y)),
  (9, o_ia SH E 10),
  (10, o_ret)]
set_option maxRecDepth 100000 in
set_option maxHeartbeats 4000000 in
theorem ts_X2_read {p : Program} {l : Launch} {e : Env} {R : Room} {s : State} {m : MethodId} {args : Array Value} {below : List Frame} {meth : Method} {c : Code} {cells slots : Nat} {Q : State → Prop} {D : va_G} {C : CI3} {A : Nat → Prop} {ad : Nat → Nat} {E : Ex} {env : Nat → Mf} {d : Nat} (X : Cx p R s m args c cX2_read 3 RX2 D C A ad SH E) (hR : d ≤ R.frames ∧ 100 * d ≤ R.locals) (hcs : cells ≤ R.cells ∧ slots ≤ R.slots) : ∀ q ∈ T_X2_read E env, SS p l e R s m args below meth c cells slots Q D C A ad SH 3 cX2_read (some .int) q.1 q.2 := by
  unfold T_X2_read
  refine List.forall_mem_cons.mpr ⟨s_aload_n (pc := 0) X (i := 0) (by decide +kernel) rfl, ?_⟩
  refine List.forall_mem_cons.mpr ⟨s_getR (pc := 1) X (idx := 25) (by decide +kernel) inTX2 rfl (by decide) lk_RX2_25 rfl, ?_⟩
  refine List.forall_mem_cons.mpr ⟨s_iload_n (pc := 4) X (i := 1) (by decide +kernel) rfl, ?_⟩
  refine List.forall_mem_cons.mpr ⟨s_iconst (pc := 5) X (n := 4) (by decide +kernel) (by decide), ?_⟩
  refine List.forall_mem_cons.mpr ⟨s_imul (pc := 6) X (by decide +kernel), ?_⟩
  refine List.forall_mem_cons.mpr ⟨s_iload_n (pc := 7) X (i := 2) (by decide +kernel) rfl, ?_⟩
  refine List.forall_mem_cons.mpr ⟨s_iadd (pc := 8) X (by decide +kernel), ?_⟩
  refine List.forall_mem_cons.mpr ⟨s_iald (pc := 9) X (by decide +kernel), ?_⟩
  refine List.forall_mem_cons.mpr ⟨s_ret (pc := 10) rfl (by decide +kernel), ?_⟩
  exact fun _ h => absurd h List.not_mem_nil
def T_X2_shortest (E : Ex) (env : Nat → Mf) : List (Nat × Stq) := [(0, o_ic 1 (4)),
  (1, o_is 2 1),
  (2, o_ic 3 (0)),
  (3, o_is 4 2),
  (4, o_il 5 2),
  (5, o_ic 7 (16)),
  (7, o_ge 35 10),
  (10, o_al 11 0),
  (11, o_il 12 2),
  (12, o_callV SH env 15 11 1 2),
  (15, o_eq0 29 18),
  (18, o_il 19 1),
  (19, o_al 20 0),
  (20, o_gR SH 23 2 2),
  (23, o_il 24 2),
  (24, o_ia SH E 25),
  (25, o_mm 28 minI),
  (28, o_is 29 1),
  (29, o_inc 32 2 (1)),
  (32, o_goto 4),
  (35, o_il 36 1),
  (36, o_ret)]
set_option maxRecDepth 100000 in
set_option maxHeartbeats 4000000 in
theorem ts_X2_shortest {p : Program} {l : Launch} {e : Env} {R : Room} {s : State} {m : MethodId} {args : Array Value} {below : List Frame} {meth : Method} {c : Code} {cells slots : Nat} {Q : State → Prop} {D : va_G} {C : CI3} {A : Nat → Prop} {ad : Nat → Nat} {E : Ex} {env : Nat → Mf} {d : Nat} (X : Cx p R s m args c cX2_shortest 3 RX2 D C A ad SH E) (hR : d ≤ R.frames ∧ 100 * d ≤ R.locals) (hcs : cells ≤ R.cells ∧ slots ≤ R.slots) (hd1 : 1 ≤ d) {d_X2_hasRow : Nat} (h_X2_hasRow : CM l SH E yX2_hasRow cX2_hasRow 2 (some .boolean) d_X2_hasRow (env 11)) (hd_X2_hasRow : d_X2_hasRow + 1 ≤ d) : ∀ q ∈ T_X2_shortest E env, SS p l e R s m args below meth c cells slots Q D C A ad SH 3 cX2_shortest (some .int) q.1 q.2 := by
  unfold T_X2_shortest
  refine List.forall_mem_cons.mpr ⟨s_iconst (pc := 0) X (n := 4) (by decide +kernel) (by decide), ?_⟩
  refine List.forall_mem_cons.mpr ⟨s_istore_n (pc := 1) X (i := 1) (by decide +kernel) rfl (by decide), ?_⟩
  refine List.forall_mem_cons.mpr ⟨s_iconst (pc := 2) X (n := 0) (by decide +kernel) (by decide), ?_⟩
  refine List.forall_mem_cons.mpr ⟨s_istore_n (pc := 3) X (i := 2) (by decide +kernel) rfl (by decide), ?_⟩
  refine List.forall_mem_cons.mpr ⟨s_iload_n (pc := 4) X (i := 2) (by decide +kernel) rfl, ?_⟩
  refine List.forall_mem_cons.mpr ⟨s_bipush (pc := 5) X (n := 16) (by decide +kernel) (by decide), ?_⟩
  refine List.forall_mem_cons.mpr ⟨s_ge (pc := 7) X (off := 28) (by decide +kernel) (by decide), ?_⟩
  refine List.forall_mem_cons.mpr ⟨s_aload_n (pc := 10) X (i := 0) (by decide +kernel) rfl, ?_⟩
  refine List.forall_mem_cons.mpr ⟨s_iload_n (pc := 11) X (i := 2) (by decide +kernel) rfl, ?_⟩
  refine List.forall_mem_cons.mpr ⟨s_callV (pc := 12) X (idx := 47) (by decide +kernel) h_X2_hasRow rfl lk_RX2_47 ls_X2_hasRow lz_X2_hasRow li_RX2 lc_X2_hasRow hv_X2_hasRow ⟨Nat.le_trans hd_X2_hasRow hR.1, Nat.le_trans (by have := hd_X2_hasRow; omega) hR.2⟩ hcs, ?_⟩
  refine List.forall_mem_cons.mpr ⟨s_eq0 (pc := 15) X (off := 14) (by decide +kernel) (by decide), ?_⟩
  refine List.forall_mem_cons.mpr ⟨s_iload_n (pc := 18) X (i := 1) (by decide +kernel) rfl, ?_⟩
  refine List.forall_mem_cons.mpr ⟨s_aload_n (pc := 19) X (i := 0) (by decide +kernel) rfl, ?_⟩
  refine List.forall_mem_cons.mpr ⟨s_getR (pc := 20) X (idx := 19) (by decide +kernel) inTX2 rfl (by decide) lk_RX2_19 rfl, ?_⟩
  refine List.forall_mem_cons.mpr ⟨s_iload_n (pc := 23) X (i := 2) (by decide +kernel) rfl, ?_⟩
  refine List.forall_mem_cons.mpr ⟨s_iald (pc := 24) X (by decide +kernel), ?_⟩
  refine List.forall_mem_cons.mpr ⟨s_mmin (pc := 25) X (idx := 50) (by decide +kernel) lk_RX2_50 lk_mmin_s lk_math lk_mmin_c ⟨Nat.le_trans hd1 hR.1, Nat.le_trans (Nat.mul_le_mul_left 100 hd1) hR.2⟩ hcs, ?_⟩
  refine List.forall_mem_cons.mpr ⟨s_istore_n (pc := 28) X (i := 1) (by decide +kernel) rfl (by decide), ?_⟩
  refine List.forall_mem_cons.mpr ⟨s_iinc (pc := 29) X (n := 1) (by decide +kernel) (by decide) (by decide), ?_⟩
  refine List.forall_mem_cons.mpr ⟨s_goto (pc := 32) X (off := -28) (by decide +kernel) (by decide), ?_⟩
  refine List.forall_mem_cons.mpr ⟨s_iload_n (pc := 35) X (i := 1) (by decide +kernel) rfl, ?_⟩
  refine List.forall_mem_cons.mpr ⟨s_ret (pc := 36) rfl (by decide +kernel), ?_⟩
  exact fun _ h => absurd h List.not_mem_nil
def T_X2_exchange_0 (E : Ex) (env : Nat → Mf) : List (Nat × Stq) := [(0, o_ic 1 (0)),
  (1, o_is 2 3),
  (2, o_il 3 3),
  (3, o_ic 5 (16)),
  (5, o_ge 58 8),
  (8, o_al 9 0),
  (9, o_gR SH 12 2 4),
  (12, o_il 13 3),
  (13, o_ic 14 (4)),
  (14, o_b2 15 (fun x y => x * y)),
  (15, o_il 16 1),
  (16, o_b2 17 (fun x y => x + y)),
  (17, o_ia SH E 18),
  (18, o_is 20 4),
  (20, o_al 21 0),
  (21, o_gR SH 24 2 4),
  (24, o_il 25 3),
  (25, o_ic 26 (4)),
  (26, o_b2 27 (fun x y => x * y)),
  (27, o_il 28 1),
  (28, o_b2 29 (fun x y => x + y)),
  (29, o_al 30 0),
  (30, o_gR SH 33 2 4),
  (33, o_il 34 3),
  (34, o_ic 35 (4)),
  (35, o_b2 36 (fun x y => x * y)),
  (36, o_il 37 2),
  (37, o_b2 38 (fun x y => x + y)),
  (38, o_ia SH E 39),
  (39, o_is_ SH 40),
  (40, o_al 41 0),
  (41, o_gR SH 44 2 4),
  (44, o_il 45 3),
  (45, o_ic 46 (4)),
  (46, o_b2 47 (fun x y => x * y)),
  (47, o_il 48 2),
  (48, o_b2 49 (fun x y => x + y)),
  (49, o_il 51 4),
  (51, o_is_ SH 52),
  (52, o_inc 55 3 (1))]
set_option maxRecDepth 100000 in
set_option maxHeartbeats 4000000 in
theorem ts_X2_exchange_0 {p : Program} {l : Launch} {e : Env} {R : Room} {s : State} {m : MethodId} {args : Array Value} {below : List Frame} {meth : Method} {c : Code} {cells slots : Nat} {Q : State → Prop} {D : va_G} {C : CI3} {A : Nat → Prop} {ad : Nat → Nat} {E : Ex} {env : Nat → Mf} {d : Nat} (X : Cx p R s m args c cX2_exchange 5 RX2 D C A ad SH E) (hR : d ≤ R.frames ∧ 100 * d ≤ R.locals) (hcs : cells ≤ R.cells ∧ slots ≤ R.slots) : ∀ q ∈ T_X2_exchange_0 E env, SS p l e R s m args below meth c cells slots Q D C A ad SH 5 cX2_exchange (none) q.1 q.2 := by
  unfold T_X2_exchange_0
  refine List.forall_mem_cons.mpr ⟨s_iconst (pc := 0) X (n := 0) (by decide +kernel) (by decide), ?_⟩
  refine List.forall_mem_cons.mpr ⟨s_istore_n (pc := 1) X (i := 3) (by decide +kernel) rfl (by decide), ?_⟩
  refine List.forall_mem_cons.mpr ⟨s_iload_n (pc := 2) X (i := 3) (by decide +kernel) rfl, ?_⟩
  refine List.forall_mem_cons.mpr ⟨s_bipush (pc := 3) X (n := 16) (by decide +kernel) (by decide), ?_⟩
  refine List.forall_mem_cons.mpr ⟨s_ge (pc := 5) X (off := 53) (by decide +kernel) (by decide), ?_⟩
  refine List.forall_mem_cons.mpr ⟨s_aload_n (pc := 8) X (i := 0) (by decide +kernel) rfl, ?_⟩
  refine List.forall_mem_cons.mpr ⟨s_getR (pc := 9) X (idx := 25) (by decide +kernel) inTX2 rfl (by decide) lk_RX2_25 rfl, ?_⟩
  refine List.forall_mem_cons.mpr ⟨s_iload_n (pc := 12) X (i := 3) (by decide +kernel) rfl, ?_⟩
  refine List.forall_mem_cons.mpr ⟨s_iconst (pc := 13) X (n := 4) (by decide +kernel) (by decide), ?_⟩
  refine List.forall_mem_cons.mpr ⟨s_imul (pc := 14) X (by decide +kernel), ?_⟩
  refine List.forall_mem_cons.mpr ⟨s_iload_n (pc := 15) X (i := 1) (by decide +kernel) rfl, ?_⟩
  refine List.forall_mem_cons.mpr ⟨s_iadd (pc := 16) X (by decide +kernel), ?_⟩
  refine List.forall_mem_cons.mpr ⟨s_iald (pc := 17) X (by decide +kernel), ?_⟩
  refine List.forall_mem_cons.mpr ⟨s_istore (pc := 18) X (by decide +kernel) (by decide), ?_⟩
  refine List.forall_mem_cons.mpr ⟨s_aload_n (pc := 20) X (i := 0) (by decide +kernel) rfl, ?_⟩
  refine List.forall_mem_cons.mpr ⟨s_getR (pc := 21) X (idx := 25) (by decide +kernel) inTX2 rfl (by decide) lk_RX2_25 rfl, ?_⟩
  refine List.forall_mem_cons.mpr ⟨s_iload_n (pc := 24) X (i := 3) (by decide +kernel) rfl, ?_⟩
  refine List.forall_mem_cons.mpr ⟨s_iconst (pc := 25) X (n := 4) (by decide +kernel) (by decide), ?_⟩
  refine List.forall_mem_cons.mpr ⟨s_imul (pc := 26) X (by decide +kernel), ?_⟩
  refine List.forall_mem_cons.mpr ⟨s_iload_n (pc := 27) X (i := 1) (by decide +kernel) rfl, ?_⟩
  refine List.forall_mem_cons.mpr ⟨s_iadd (pc := 28) X (by decide +kernel), ?_⟩
  refine List.forall_mem_cons.mpr ⟨s_aload_n (pc := 29) X (i := 0) (by decide +kernel) rfl, ?_⟩
  refine List.forall_mem_cons.mpr ⟨s_getR (pc := 30) X (idx := 25) (by decide +kernel) inTX2 rfl (by decide) lk_RX2_25 rfl, ?_⟩
  refine List.forall_mem_cons.mpr ⟨s_iload_n (pc := 33) X (i := 3) (by decide +kernel) rfl, ?_⟩
  refine List.forall_mem_cons.mpr ⟨s_iconst (pc := 34) X (n := 4) (by decide +kernel) (by decide), ?_⟩
  refine List.forall_mem_cons.mpr ⟨s_imul (pc := 35) X (by decide +kernel), ?_⟩
  refine List.forall_mem_cons.mpr ⟨s_iload_n (pc := 36) X (i := 2) (by decide +kernel) rfl, ?_⟩
  refine List.forall_mem_cons.mpr ⟨s_iadd (pc := 37) X (by decide +kernel), ?_⟩
  refine List.forall_mem_cons.mpr ⟨s_iald (pc := 38) X (by decide +kernel), ?_⟩
  refine List.forall_mem_cons.mpr ⟨s_iast (pc := 39) X (by decide +kernel), ?_⟩
  refine List.forall_mem_cons.mpr ⟨s_aload_n (pc := 40) X (i := 0) (by decide +kernel) rfl, ?_⟩
  refine List.forall_mem_cons.mpr ⟨s_getR (pc := 41) X (idx := 25) (by decide +kernel) inTX2 rfl (by decide) lk_RX2_25 rfl, ?_⟩
  refine List.forall_mem_cons.mpr ⟨s_iload_n (pc := 44) X (i := 3) (by decide +kernel) rfl, ?_⟩
  refine List.forall_mem_cons.mpr ⟨s_iconst (pc := 45) X (n := 4) (by decide +kernel) (by decide), ?_⟩
  refine List.forall_mem_cons.mpr ⟨s_imul (pc := 46) X (by decide +kernel), ?_⟩
  refine List.forall_mem_cons.mpr ⟨s_iload_n (pc := 47) X (i := 2) (by decide +kernel) rfl, ?_⟩
  refine List.forall_mem_cons.mpr ⟨s_iadd (pc := 48) X (by decide +kernel), ?_⟩
  refine List.forall_mem_cons.mpr ⟨s_iload (pc := 49) X (by decide +kernel), ?_⟩
  refine List.forall_mem_cons.mpr ⟨s_iast (pc := 51) X (by decide +kernel), ?_⟩
  refine List.forall_mem_cons.mpr ⟨s_iinc (pc := 52) X (n := 1) (by decide +kernel) (by decide) (by decide), ?_⟩
  exact fun _ h => absurd h List.not_mem_nil
def T_X2_exchange_1 (E : Ex) (env : Nat → Mf) : List (Nat × Stq) := [(55, o_goto 2),
  (58, o_retV)]
set_option maxRecDepth 100000 in
set_option maxHeartbeats 4000000 in
theorem ts_X2_exchange_1 {p : Program} {l : Launch} {e : Env} {R : Room} {s : State} {m : MethodId} {args : Array Value} {below : List Frame} {meth : Method} {c : Code} {cells slots : Nat} {Q : State → Prop} {D : va_G} {C : CI3} {A : Nat → Prop} {ad : Nat → Nat} {E : Ex} {env : Nat → Mf} {d : Nat} (X : Cx p R s m args c cX2_exchange 5 RX2 D C A ad SH E) (hR : d ≤ R.frames ∧ 100 * d ≤ R.locals) (hcs : cells ≤ R.cells ∧ slots ≤ R.slots) : ∀ q ∈ T_X2_exchange_1 E env, SS p l e R s m args below meth c cells slots Q D C A ad SH 5 cX2_exchange (none) q.1 q.2 := by
  unfold T_X2_exchange_1
  refine List.forall_mem_cons.mpr ⟨s_goto (pc := 55) X (off := -53) (by decide +kernel) (by decide), ?_⟩
  refine List.forall_mem_cons.mpr ⟨s_retV (pc := 58) (by decide +kernel), ?_⟩
  exact fun _ h => absurd h List.not_mem_nil
def T_X2_exchange (E : Ex) (env : Nat → Mf) : List (Nat × Stq) := T_X2_exchange_0 E env ++ (T_X2_exchange_1 E env)
theorem ts_X2_exchange {p : Program} {l : Launch} {e : Env} {R : Room} {s : State} {m : MethodId} {args : Array Value} {below : List Frame} {meth : Method} {c : Code} {cells slots : Nat} {Q : State → Prop} {D : va_G} {C : CI3} {A : Nat → Prop} {ad : Nat → Nat} {E : Ex} {env : Nat → Mf} {d : Nat} (X : Cx p R s m args c cX2_exchange 5 RX2 D C A ad SH E) (hR : d ≤ R.frames ∧ 100 * d ≤ R.locals) (hcs : cells ≤ R.cells ∧ slots ≤ R.slots) : ∀ q ∈ T_X2_exchange E env, SS p l e R s m args below meth c cells slots Q D C A ad SH 5 cX2_exchange (none) q.1 q.2 := List.forall_mem_append.mpr ⟨ts_X2_exchange_0 X hR hcs , ts_X2_exchange_1 X hR hcs ⟩
def T_X2_compared (E : Ex) (env : Nat → Mf) : List (Nat × Stq) := [(0, o_ic 1 (0)),
  (1, o_is 2 3),
  (2, o_ic 3 (0)),
  (3, o_is 5 4),
  (5, o_il 7 4),
  (7, o_al 8 0),
  (8, o_gI SH 11 2 0),
  (11, o_ge 47 14),
  (14, o_il 15 3),
  (15, o_gs 18),
  (18, o_il 20 4),
  (20, o_ia SH E 21),
  (21, o_al 22 0),
  (22, o_il 23 1),
  (23, o_il 25 4),
  (25, o_callV SH env 28 15 2 2),
  (28, o_al 29 0),
  (29, o_il 30 2),
  (30, o_il 32 4),
  (32, o_callV SH env 35 15 2 2),
  (35, o_call env 38 19 2),
  (38, o_b2 39 (fun x y => x * y)),
  (39, o_b2 40 (fun x y => x + y)),
  (40, o_is 41 3),
  (41, o_inc 44 4 (1)),
  (44, o_goto 5),
  (47, o_il 48 3),
  (48, o_ret)]
set_option maxRecDepth 100000 in
set_option maxHeartbeats 4000000 in
theorem ts_X2_compared {p : Program} {l : Launch} {e : Env} {R : Room} {s : State} {m : MethodId} {args : Array Value} {below : List Frame} {meth : Method} {c : Code} {cells slots : Nat} {Q : State → Prop} {D : va_G} {C : CI3} {A : Nat → Prop} {ad : Nat → Nat} {E : Ex} {env : Nat → Mf} {d : Nat} (X : Cx p R s m args c cX2_compared 5 RX2 D C A ad SH E) (hR : d ≤ R.frames ∧ 100 * d ≤ R.locals) (hcs : cells ≤ R.cells ∧ slots ≤ R.slots) {d_X2_read : Nat} (h_X2_read : CM l SH E yX2_read cX2_read 3 (some .int) d_X2_read (env 15)) (hd_X2_read : d_X2_read + 1 ≤ d) {d_X2_word : Nat} (h_X2_word : CM l SH E yX2_word cX2_word 2 (some .int) d_X2_word (env 19)) (hd_X2_word : d_X2_word + 1 ≤ d) : ∀ q ∈ T_X2_compared E env, SS p l e R s m args below meth c cells slots Q D C A ad SH 5 cX2_compared (some .int) q.1 q.2 := by
  unfold T_X2_compared
  refine List.forall_mem_cons.mpr ⟨s_iconst (pc := 0) X (n := 0) (by decide +kernel) (by decide), ?_⟩
  refine List.forall_mem_cons.mpr ⟨s_istore_n (pc := 1) X (i := 3) (by decide +kernel) rfl (by decide), ?_⟩
  refine List.forall_mem_cons.mpr ⟨s_iconst (pc := 2) X (n := 0) (by decide +kernel) (by decide), ?_⟩
  refine List.forall_mem_cons.mpr ⟨s_istore (pc := 3) X (by decide +kernel) (by decide), ?_⟩
  refine List.forall_mem_cons.mpr ⟨s_iload (pc := 5) X (by decide +kernel), ?_⟩
  refine List.forall_mem_cons.mpr ⟨s_aload_n (pc := 7) X (i := 0) (by decide +kernel) rfl, ?_⟩
  refine List.forall_mem_cons.mpr ⟨s_getI (pc := 8) X (idx := 9) (by decide +kernel) inTX2 rfl (by decide) lk_RX2_9 rfl, ?_⟩
  refine List.forall_mem_cons.mpr ⟨s_ge (pc := 11) X (off := 36) (by decide +kernel) (by decide), ?_⟩
  refine List.forall_mem_cons.mpr ⟨s_iload_n (pc := 14) X (i := 3) (by decide +kernel) rfl, ?_⟩
  refine List.forall_mem_cons.mpr ⟨s_getsN (pc := 15) X (idx := 56) (by decide +kernel) (by simp [NW]), ?_⟩
  refine List.forall_mem_cons.mpr ⟨s_iload (pc := 18) X (by decide +kernel), ?_⟩
  refine List.forall_mem_cons.mpr ⟨s_iald (pc := 20) X (by decide +kernel), ?_⟩
  refine List.forall_mem_cons.mpr ⟨s_aload_n (pc := 21) X (i := 0) (by decide +kernel) rfl, ?_⟩
  refine List.forall_mem_cons.mpr ⟨s_iload_n (pc := 22) X (i := 1) (by decide +kernel) rfl, ?_⟩
  refine List.forall_mem_cons.mpr ⟨s_iload (pc := 23) X (by decide +kernel), ?_⟩
  refine List.forall_mem_cons.mpr ⟨s_callV (pc := 25) X (idx := 59) (by decide +kernel) h_X2_read rfl lk_RX2_59 ls_X2_read lz_X2_read li_RX2 lc_X2_read hv_X2_read ⟨Nat.le_trans hd_X2_read hR.1, Nat.le_trans (by have := hd_X2_read; omega) hR.2⟩ hcs, ?_⟩
  refine List.forall_mem_cons.mpr ⟨s_aload_n (pc := 28) X (i := 0) (by decide +kernel) rfl, ?_⟩
  refine List.forall_mem_cons.mpr ⟨s_iload_n (pc := 29) X (i := 2) (by decide +kernel) rfl, ?_⟩
  refine List.forall_mem_cons.mpr ⟨s_iload (pc := 30) X (by decide +kernel), ?_⟩
  refine List.forall_mem_cons.mpr ⟨s_callV (pc := 32) X (idx := 59) (by decide +kernel) h_X2_read rfl lk_RX2_59 ls_X2_read lz_X2_read li_RX2 lc_X2_read hv_X2_read ⟨Nat.le_trans hd_X2_read hR.1, Nat.le_trans (by have := hd_X2_read; omega) hR.2⟩ hcs, ?_⟩
  refine List.forall_mem_cons.mpr ⟨s_callS (pc := 35) X (idx := 62) (by decide +kernel) h_X2_word lk_RX2_62 ls_X2_word li_RX2 lc_X2_word hy_X2_word ⟨Nat.le_trans hd_X2_word hR.1, Nat.le_trans (by have := hd_X2_word; omega) hR.2⟩ hcs, ?_⟩
  refine List.forall_mem_cons.mpr ⟨s_imul (pc := 38) X (by decide +kernel), ?_⟩
  refine List.forall_mem_cons.mpr ⟨s_iadd (pc := 39) X (by decide +kernel), ?_⟩
  refine List.forall_mem_cons.mpr ⟨s_istore_n (pc := 40) X (i := 3) (by decide +kernel) rfl (by decide), ?_⟩
  refine List.forall_mem_cons.mpr ⟨s_iinc (pc := 41) X (n := 1) (by decide +kernel) (by decide) (by decide), ?_⟩
  refine List.forall_mem_cons.mpr ⟨s_goto (pc := 44) X (off := -39) (by decide +kernel) (by decide), ?_⟩
  refine List.forall_mem_cons.mpr ⟨s_iload_n (pc := 47) X (i := 3) (by decide +kernel) rfl, ?_⟩
  refine List.forall_mem_cons.mpr ⟨s_ret (pc := 48) rfl (by decide +kernel), ?_⟩
  exact fun _ h => absurd h List.not_mem_nil
def T_X2_word (E : Ex) (env : Nat → Mf) : List (Nat × Stq) := [(0, o_il 1 0),
  (1, o_ic 4 (1000)),
  (4, o_eq 14 7),
  (7, o_il 8 1),
  (8, o_ic 11 (1000)),
  (11, o_ne 16 14),
  (14, o_ic 15 (2)),
  (15, o_ret),
  (16, o_il 17 0),
  (17, o_il 18 1),
  (18, o_ne 23 21),
  (21, o_ic 22 (1)),
  (22, o_ret),
  (23, o_il 24 0),
  (24, o_il 25 1),
  (25, o_ge 32 28),
  (28, o_ic 29 (3)),
  (29, o_goto 33),
  (32, o_ic 33 (4)),
  (33, o_ret)]
set_option maxRecDepth 100000 in
set_option maxHeartbeats 4000000 in
theorem ts_X2_word {p : Program} {l : Launch} {e : Env} {R : Room} {s : State} {m : MethodId} {args : Array Value} {below : List Frame} {meth : Method} {c : Code} {cells slots : Nat} {Q : State → Prop} {D : va_G} {C : CI3} {A : Nat → Prop} {ad : Nat → Nat} {E : Ex} {env : Nat → Mf} {d : Nat} (X : Cx p R s m args c cX2_word 2 RX2 D C A ad SH E) (hR : d ≤ R.frames ∧ 100 * d ≤ R.locals) (hcs : cells ≤ R.cells ∧ slots ≤ R.slots) : ∀ q ∈ T_X2_word E env, SS p l e R s m args below meth c cells slots Q D C A ad SH 2 cX2_word (some .int) q.1 q.2 := by
  unfold T_X2_word
  refine List.forall_mem_cons.mpr ⟨s_iload_n (pc := 0) X (i := 0) (by decide +kernel) rfl, ?_⟩
  refine List.forall_mem_cons.mpr ⟨s_sipush (pc := 1) X (n := 1000) (by decide +kernel) (by decide), ?_⟩
  refine List.forall_mem_cons.mpr ⟨s_eq (pc := 4) X (off := 10) (by decide +kernel) (by decide), ?_⟩
  refine List.forall_mem_cons.mpr ⟨s_iload_n (pc := 7) X (i := 1) (by decide +kernel) rfl, ?_⟩
  refine List.forall_mem_cons.mpr ⟨s_sipush (pc := 8) X (n := 1000) (by decide +kernel) (by decide), ?_⟩
  refine List.forall_mem_cons.mpr ⟨s_ne (pc := 11) X (off := 5) (by decide +kernel) (by decide), ?_⟩
  refine List.forall_mem_cons.mpr ⟨s_iconst (pc := 14) X (n := 2) (by decide +kernel) (by decide), ?_⟩
  refine List.forall_mem_cons.mpr ⟨s_ret (pc := 15) rfl (by decide +kernel), ?_⟩
  refine List.forall_mem_cons.mpr ⟨s_iload_n (pc := 16) X (i := 0) (by decide +kernel) rfl, ?_⟩
  refine List.forall_mem_cons.mpr ⟨s_iload_n (pc := 17) X (i := 1) (by decide +kernel) rfl, ?_⟩
  refine List.forall_mem_cons.mpr ⟨s_ne (pc := 18) X (off := 5) (by decide +kernel) (by decide), ?_⟩
  refine List.forall_mem_cons.mpr ⟨s_iconst (pc := 21) X (n := 1) (by decide +kernel) (by decide), ?_⟩
  refine List.forall_mem_cons.mpr ⟨s_ret (pc := 22) rfl (by decide +kernel), ?_⟩
  refine List.forall_mem_cons.mpr ⟨s_iload_n (pc := 23) X (i := 0) (by decide +kernel) rfl, ?_⟩
  refine List.forall_mem_cons.mpr ⟨s_iload_n (pc := 24) X (i := 1) (by decide +kernel) rfl, ?_⟩
  refine List.forall_mem_cons.mpr ⟨s_ge (pc := 25) X (off := 7) (by decide +kernel) (by decide), ?_⟩
  refine List.forall_mem_cons.mpr ⟨s_iconst (pc := 28) X (n := 3) (by decide +kernel) (by decide), ?_⟩
  refine List.forall_mem_cons.mpr ⟨s_goto (pc := 29) X (off := 4) (by decide +kernel) (by decide), ?_⟩
  refine List.forall_mem_cons.mpr ⟨s_iconst (pc := 32) X (n := 4) (by decide +kernel) (by decide), ?_⟩
  refine List.forall_mem_cons.mpr ⟨s_ret (pc := 33) rfl (by decide +kernel), ?_⟩
  exact fun _ h => absurd h List.not_mem_nil
def T_X2_pairBreaks (E : Ex) (env : Nat → Mf) : List (Nat × Stq) := [(0, o_al 1 0),
  (1, o_il 2 1),
  (2, o_callV SH env 5 11 1 2),
  (5, o_eq0 16 8),
  (8, o_al 9 0),
  (9, o_il 10 2),
  (10, o_callV SH env 13 11 1 2),
  (13, o_ne0 18 16),
  (16, o_ic 17 (0)),
  (17, o_retZ),
  (18, o_al 19 0),
  (19, o_il 20 1),
  (20, o_il 21 2),
  (21, o_callV SH env 24 18 2 2),
  (24, o_is 26 4),
  (26, o_il 27 3),
  (27, o_il 29 4),
  (29, o_call env 32 62 2),
  (32, o_ne0 47 35),
  (35, o_il 36 3),
  (36, o_call env 39 61 1),
  (39, o_il 41 4),
  (41, o_call env 44 62 2),
  (44, o_eq0 51 47),
  (47, o_ic 48 (1)),
  (48, o_goto 52),
  (51, o_ic 52 (0)),
  (52, o_retZ)]
set_option maxRecDepth 100000 in
set_option maxHeartbeats 4000000 in
theorem ts_X2_pairBreaks {p : Program} {l : Launch} {e : Env} {R : Room} {s : State} {m : MethodId} {args : Array Value} {below : List Frame} {meth : Method} {c : Code} {cells slots : Nat} {Q : State → Prop} {D : va_G} {C : CI3} {A : Nat → Prop} {ad : Nat → Nat} {E : Ex} {env : Nat → Mf} {d : Nat} (X : Cx p R s m args c cX2_pairBreaks 5 RX2 D C A ad SH E) (hR : d ≤ R.frames ∧ 100 * d ≤ R.locals) (hcs : cells ≤ R.cells ∧ slots ≤ R.slots) {d_X2_hasRow : Nat} (h_X2_hasRow : CM l SH E yX2_hasRow cX2_hasRow 2 (some .boolean) d_X2_hasRow (env 11)) (hd_X2_hasRow : d_X2_hasRow + 1 ≤ d) {d_X2_compared : Nat} (h_X2_compared : CM l SH E yX2_compared cX2_compared 5 (some .int) d_X2_compared (env 18)) (hd_X2_compared : d_X2_compared + 1 ≤ d) {d_X4_covers : Nat} (h_X4_covers : CM l SH E yX4_covers cX4_covers 5 (some .boolean) d_X4_covers (env 62)) (hd_X4_covers : d_X4_covers + 1 ≤ d) {d_X4_turnedOf : Nat} (h_X4_turnedOf : CM l SH E yX4_turnedOf cX4_turnedOf 4 (some .int) d_X4_turnedOf (env 61)) (hd_X4_turnedOf : d_X4_turnedOf + 1 ≤ d) : ∀ q ∈ T_X2_pairBreaks E env, SS p l e R s m args below meth c cells slots Q D C A ad SH 5 cX2_pairBreaks (some .boolean) q.1 q.2 := by
  unfold T_X2_pairBreaks
  refine List.forall_mem_cons.mpr ⟨s_aload_n (pc := 0) X (i := 0) (by decide +kernel) rfl, ?_⟩
  refine List.forall_mem_cons.mpr ⟨s_iload_n (pc := 1) X (i := 1) (by decide +kernel) rfl, ?_⟩
  refine List.forall_mem_cons.mpr ⟨s_callV (pc := 2) X (idx := 47) (by decide +kernel) h_X2_hasRow rfl lk_RX2_47 ls_X2_hasRow lz_X2_hasRow li_RX2 lc_X2_hasRow hv_X2_hasRow ⟨Nat.le_trans hd_X2_hasRow hR.1, Nat.le_trans (by have := hd_X2_hasRow; omega) hR.2⟩ hcs, ?_⟩
  refine List.forall_mem_cons.mpr ⟨s_eq0 (pc := 5) X (off := 11) (by decide +kernel) (by decide), ?_⟩
  refine List.forall_mem_cons.mpr ⟨s_aload_n (pc := 8) X (i := 0) (by decide +kernel) rfl, ?_⟩
  refine List.forall_mem_cons.mpr ⟨s_iload_n (pc := 9) X (i := 2) (by decide +kernel) rfl, ?_⟩
  refine List.forall_mem_cons.mpr ⟨s_callV (pc := 10) X (idx := 47) (by decide +kernel) h_X2_hasRow rfl lk_RX2_47 ls_X2_hasRow lz_X2_hasRow li_RX2 lc_X2_hasRow hv_X2_hasRow ⟨Nat.le_trans hd_X2_hasRow hR.1, Nat.le_trans (by have := hd_X2_hasRow; omega) hR.2⟩ hcs, ?_⟩
  refine List.forall_mem_cons.mpr ⟨s_ne0 (pc := 13) X (off := 5) (by decide +kernel) (by decide), ?_⟩
  refine List.forall_mem_cons.mpr ⟨s_iconst (pc := 16) X (n := 0) (by decide +kernel) (by decide), ?_⟩
  refine List.forall_mem_cons.mpr ⟨s_retZ (pc := 17) (by decide +kernel), ?_⟩
  refine List.forall_mem_cons.mpr ⟨s_aload_n (pc := 18) X (i := 0) (by decide +kernel) rfl, ?_⟩
  refine List.forall_mem_cons.mpr ⟨s_iload_n (pc := 19) X (i := 1) (by decide +kernel) rfl, ?_⟩
  refine List.forall_mem_cons.mpr ⟨s_iload_n (pc := 20) X (i := 2) (by decide +kernel) rfl, ?_⟩
  refine List.forall_mem_cons.mpr ⟨s_callV (pc := 21) X (idx := 65) (by decide +kernel) h_X2_compared rfl lk_RX2_65 ls_X2_compared lz_X2_compared li_RX2 lc_X2_compared hv_X2_compared ⟨Nat.le_trans hd_X2_compared hR.1, Nat.le_trans (by have := hd_X2_compared; omega) hR.2⟩ hcs, ?_⟩
  refine List.forall_mem_cons.mpr ⟨s_istore (pc := 24) X (by decide +kernel) (by decide), ?_⟩
  refine List.forall_mem_cons.mpr ⟨s_iload_n (pc := 26) X (i := 3) (by decide +kernel) rfl, ?_⟩
  refine List.forall_mem_cons.mpr ⟨s_iload (pc := 27) X (by decide +kernel), ?_⟩
  refine List.forall_mem_cons.mpr ⟨s_callSN (pc := 29) X (idx := 68) (by decide +kernel) h_X4_covers (by simp [NW]) ls_X4_covers li_RX4 lc_X4_covers hy_X4_covers ⟨Nat.le_trans hd_X4_covers hR.1, Nat.le_trans (by have := hd_X4_covers; omega) hR.2⟩ hcs, ?_⟩
  refine List.forall_mem_cons.mpr ⟨s_ne0 (pc := 32) X (off := 15) (by decide +kernel) (by decide), ?_⟩
  refine List.forall_mem_cons.mpr ⟨s_iload_n (pc := 35) X (i := 3) (by decide +kernel) rfl, ?_⟩
  refine List.forall_mem_cons.mpr ⟨s_callSN (pc := 36) X (idx := 72) (by decide +kernel) h_X4_turnedOf (by simp [NW]) ls_X4_turnedOf li_RX4 lc_X4_turnedOf hy_X4_turnedOf ⟨Nat.le_trans hd_X4_turnedOf hR.1, Nat.le_trans (by have := hd_X4_turnedOf; omega) hR.2⟩ hcs, ?_⟩
  refine List.forall_mem_cons.mpr ⟨s_iload (pc := 39) X (by decide +kernel), ?_⟩
  refine List.forall_mem_cons.mpr ⟨s_callSN (pc := 41) X (idx := 68) (by decide +kernel) h_X4_covers (by simp [NW]) ls_X4_covers li_RX4 lc_X4_covers hy_X4_covers ⟨Nat.le_trans hd_X4_covers hR.1, Nat.le_trans (by have := hd_X4_covers; omega) hR.2⟩ hcs, ?_⟩
  refine List.forall_mem_cons.mpr ⟨s_eq0 (pc := 44) X (off := 7) (by decide +kernel) (by decide), ?_⟩
  refine List.forall_mem_cons.mpr ⟨s_iconst (pc := 47) X (n := 1) (by decide +kernel) (by decide), ?_⟩
  refine List.forall_mem_cons.mpr ⟨s_goto (pc := 48) X (off := 4) (by decide +kernel) (by decide), ?_⟩
  refine List.forall_mem_cons.mpr ⟨s_iconst (pc := 51) X (n := 0) (by decide +kernel) (by decide), ?_⟩
  refine List.forall_mem_cons.mpr ⟨s_retZ (pc := 52) (by decide +kernel), ?_⟩
  exact fun _ h => absurd h List.not_mem_nil
def T_X3_recount_0 (E : Ex) (env : Nat → Mf) : List (Nat × Stq) := [(0, o_al 1 0),
  (1, o_gR SH 4 3 0),
  (4, o_ic 5 (0)),
  (5, o_call env 8 119 2),
  (8, o_ic 9 (0)),
  (9, o_is 10 2),
  (10, o_il 11 2),
  (11, o_ic 13 (16)),
  (13, o_ge 72 16),
  (16, o_ic 17 (0)),
  (17, o_is 18 3),
  (18, o_il 19 3),
  (19, o_ic 21 (16)),
  (21, o_ge 66 24),
  (24, o_il 25 2),
  (25, o_il 26 3),
  (26, o_eq 60 29),
  (29, o_al 30 1),
  (30, o_il 31 2),
  (31, o_callV SH env 34 11 1 2),
  (34, o_eq0 60 37),
  (37, o_al 38 1),
  (38, o_il 39 3),
  (39, o_callV SH env 42 11 1 2),
  (42, o_eq0 60 45),
  (45, o_al 46 0),
  (46, o_gR SH 49 3 0),
  (49, o_al 50 1),
  (50, o_il 51 2),
  (51, o_il 52 3),
  (52, o_callV SH env 55 18 2 2),
  (55, o_dup2 56),
  (56, o_ia SH E 57),
  (57, o_ic 58 (1)),
  (58, o_b2 59 (fun x y => x + y)),
  (59, o_is_ SH 60),
  (60, o_inc 63 3 (1)),
  (63, o_goto 18),
  (66, o_inc 69 2 (1)),
  (69, o_goto 10)]
set_option maxRecDepth 100000 in
set_option maxHeartbeats 4000000 in
theorem ts_X3_recount_0 {p : Program} {l : Launch} {e : Env} {R : Room} {s : State} {m : MethodId} {args : Array Value} {below : List Frame} {meth : Method} {c : Code} {cells slots : Nat} {Q : State → Prop} {D : va_G} {C : CI3} {A : Nat → Prop} {ad : Nat → Nat} {E : Ex} {env : Nat → Mf} {d : Nat} (X : Cx p R s m args c cX3_recount 4 RX3 D C A ad SH E) (hR : d ≤ R.frames ∧ 100 * d ≤ R.locals) (hcs : cells ≤ R.cells ∧ slots ≤ R.slots) (hd1 : 1 ≤ d) {d_J7_fill_53178 : Nat} (h_J7_fill_53178 : CM l SH E yJ7_fill_53178 cJ7_fill_53178 4 (none) d_J7_fill_53178 (env 119)) (hd_J7_fill_53178 : d_J7_fill_53178 + 1 ≤ d) {d_X2_hasRow : Nat} (h_X2_hasRow : CM l SH E yX2_hasRow cX2_hasRow 2 (some .boolean) d_X2_hasRow (env 11)) (hd_X2_hasRow : d_X2_hasRow + 1 ≤ d) {d_X2_compared : Nat} (h_X2_compared : CM l SH E yX2_compared cX2_compared 5 (some .int) d_X2_compared (env 18)) (hd_X2_compared : d_X2_compared + 1 ≤ d) {d_X3_sumUp : Nat} (h_X3_sumUp : CM l SH E yX3_sumUp cX3_sumUp 6 (none) d_X3_sumUp (env 22)) (hd_X3_sumUp : d_X3_sumUp + 1 ≤ d) {d_X3_halveEven : Nat} (h_X3_halveEven : CM l SH E yX3_halveEven cX3_halveEven 3 (none) d_X3_halveEven (env 23)) (hd_X3_halveEven : d_X3_halveEven + 1 ≤ d) : ∀ q ∈ T_X3_recount_0 E env, SS p l e R s m args below meth c cells slots Q D C A ad SH 4 cX3_recount (none) q.1 q.2 := by
  unfold T_X3_recount_0
  refine List.forall_mem_cons.mpr ⟨s_aload_n (pc := 0) X (i := 0) (by decide +kernel) rfl, ?_⟩
  refine List.forall_mem_cons.mpr ⟨s_getR (pc := 1) X (idx := 9) (by decide +kernel) inTX3 rfl (by decide) lk_RX3_9 rfl, ?_⟩
  refine List.forall_mem_cons.mpr ⟨s_iconst (pc := 4) X (n := 0) (by decide +kernel) (by decide), ?_⟩
  refine List.forall_mem_cons.mpr ⟨s_callS (pc := 5) X (idx := 18) (by decide +kernel) h_J7_fill_53178 lk_RX3_18 ls_J7_fill_53178 li_RJ7 lc_J7_fill_53178 hy_J7_fill_53178 ⟨Nat.le_trans hd_J7_fill_53178 hR.1, Nat.le_trans (by have := hd_J7_fill_53178; omega) hR.2⟩ hcs, ?_⟩
  refine List.forall_mem_cons.mpr ⟨s_iconst (pc := 8) X (n := 0) (by decide +kernel) (by decide), ?_⟩
  refine List.forall_mem_cons.mpr ⟨s_istore_n (pc := 9) X (i := 2) (by decide +kernel) rfl (by decide), ?_⟩
  refine List.forall_mem_cons.mpr ⟨s_iload_n (pc := 10) X (i := 2) (by decide +kernel) rfl, ?_⟩
  refine List.forall_mem_cons.mpr ⟨s_bipush (pc := 11) X (n := 16) (by decide +kernel) (by decide), ?_⟩
  refine List.forall_mem_cons.mpr ⟨s_ge (pc := 13) X (off := 59) (by decide +kernel) (by decide), ?_⟩
  refine List.forall_mem_cons.mpr ⟨s_iconst (pc := 16) X (n := 0) (by decide +kernel) (by decide), ?_⟩
  refine List.forall_mem_cons.mpr ⟨s_istore_n (pc := 17) X (i := 3) (by decide +kernel) rfl (by decide), ?_⟩
  refine List.forall_mem_cons.mpr ⟨s_iload_n (pc := 18) X (i := 3) (by decide +kernel) rfl, ?_⟩
  refine List.forall_mem_cons.mpr ⟨s_bipush (pc := 19) X (n := 16) (by decide +kernel) (by decide), ?_⟩
  refine List.forall_mem_cons.mpr ⟨s_ge (pc := 21) X (off := 45) (by decide +kernel) (by decide), ?_⟩
  refine List.forall_mem_cons.mpr ⟨s_iload_n (pc := 24) X (i := 2) (by decide +kernel) rfl, ?_⟩
  refine List.forall_mem_cons.mpr ⟨s_iload_n (pc := 25) X (i := 3) (by decide +kernel) rfl, ?_⟩
  refine List.forall_mem_cons.mpr ⟨s_eq (pc := 26) X (off := 34) (by decide +kernel) (by decide), ?_⟩
  refine List.forall_mem_cons.mpr ⟨s_aload_n (pc := 29) X (i := 1) (by decide +kernel) rfl, ?_⟩
  refine List.forall_mem_cons.mpr ⟨s_iload_n (pc := 30) X (i := 2) (by decide +kernel) rfl, ?_⟩
  refine List.forall_mem_cons.mpr ⟨s_callV (pc := 31) X (idx := 24) (by decide +kernel) h_X2_hasRow rfl lk_RX3_24 ls_X2_hasRow lz_X2_hasRow li_RX2 lc_X2_hasRow hv_X2_hasRow ⟨Nat.le_trans hd_X2_hasRow hR.1, Nat.le_trans (by have := hd_X2_hasRow; omega) hR.2⟩ hcs, ?_⟩
  refine List.forall_mem_cons.mpr ⟨s_eq0 (pc := 34) X (off := 26) (by decide +kernel) (by decide), ?_⟩
  refine List.forall_mem_cons.mpr ⟨s_aload_n (pc := 37) X (i := 1) (by decide +kernel) rfl, ?_⟩
  refine List.forall_mem_cons.mpr ⟨s_iload_n (pc := 38) X (i := 3) (by decide +kernel) rfl, ?_⟩
  refine List.forall_mem_cons.mpr ⟨s_callV (pc := 39) X (idx := 24) (by decide +kernel) h_X2_hasRow rfl lk_RX3_24 ls_X2_hasRow lz_X2_hasRow li_RX2 lc_X2_hasRow hv_X2_hasRow ⟨Nat.le_trans hd_X2_hasRow hR.1, Nat.le_trans (by have := hd_X2_hasRow; omega) hR.2⟩ hcs, ?_⟩
  refine List.forall_mem_cons.mpr ⟨s_eq0 (pc := 42) X (off := 18) (by decide +kernel) (by decide), ?_⟩
  refine List.forall_mem_cons.mpr ⟨s_aload_n (pc := 45) X (i := 0) (by decide +kernel) rfl, ?_⟩
  refine List.forall_mem_cons.mpr ⟨s_getR (pc := 46) X (idx := 9) (by decide +kernel) inTX3 rfl (by decide) lk_RX3_9 rfl, ?_⟩
  refine List.forall_mem_cons.mpr ⟨s_aload_n (pc := 49) X (i := 1) (by decide +kernel) rfl, ?_⟩
  refine List.forall_mem_cons.mpr ⟨s_iload_n (pc := 50) X (i := 2) (by decide +kernel) rfl, ?_⟩
  refine List.forall_mem_cons.mpr ⟨s_iload_n (pc := 51) X (i := 3) (by decide +kernel) rfl, ?_⟩
  refine List.forall_mem_cons.mpr ⟨s_callV (pc := 52) X (idx := 30) (by decide +kernel) h_X2_compared rfl lk_RX3_30 ls_X2_compared lz_X2_compared li_RX2 lc_X2_compared hv_X2_compared ⟨Nat.le_trans hd_X2_compared hR.1, Nat.le_trans (by have := hd_X2_compared; omega) hR.2⟩ hcs, ?_⟩
  refine List.forall_mem_cons.mpr ⟨s_dup2 (pc := 55) X (by decide +kernel), ?_⟩
  refine List.forall_mem_cons.mpr ⟨s_iald (pc := 56) X (by decide +kernel), ?_⟩
  refine List.forall_mem_cons.mpr ⟨s_iconst (pc := 57) X (n := 1) (by decide +kernel) (by decide), ?_⟩
  refine List.forall_mem_cons.mpr ⟨s_iadd (pc := 58) X (by decide +kernel), ?_⟩
  refine List.forall_mem_cons.mpr ⟨s_iast (pc := 59) X (by decide +kernel), ?_⟩
  refine List.forall_mem_cons.mpr ⟨s_iinc (pc := 60) X (n := 1) (by decide +kernel) (by decide) (by decide), ?_⟩
  refine List.forall_mem_cons.mpr ⟨s_goto (pc := 63) X (off := -45) (by decide +kernel) (by decide), ?_⟩
  refine List.forall_mem_cons.mpr ⟨s_iinc (pc := 66) X (n := 1) (by decide +kernel) (by decide) (by decide), ?_⟩
  refine List.forall_mem_cons.mpr ⟨s_goto (pc := 69) X (off := -59) (by decide +kernel) (by decide), ?_⟩
  exact fun _ h => absurd h List.not_mem_nil
def T_X3_recount_1 (E : Ex) (env : Nat → Mf) : List (Nat × Stq) := [(72, o_al 73 0),
  (73, o_gR SH 76 3 0),
  (76, o_ic 77 (0)),
  (77, o_al 78 0),
  (78, o_gR SH 81 3 1),
  (81, o_ic 82 (0)),
  (82, o_ic 85 (625)),
  (85, o_copy SH 88),
  (88, o_ic 89 (0)),
  (89, o_is 90 2),
  (90, o_il 91 2),
  (91, o_al 92 1),
  (92, o_gI SH 95 2 0),
  (95, o_ge 117 98),
  (98, o_al 99 0),
  (99, o_il 100 2),
  (100, o_gs 103),
  (103, o_al 104 1),
  (104, o_gI SH 107 2 0),
  (107, o_ia SH E 108),
  (108, o_callV SH env 111 22 2 3),
  (111, o_inc 114 2 (1)),
  (114, o_goto 90),
  (117, o_al 118 0),
  (118, o_gs 121),
  (121, o_al 122 1),
  (122, o_gI SH 125 2 0),
  (125, o_ia SH E 126),
  (126, o_callV SH env 129 23 1 3),
  (129, o_retV)]
set_option maxRecDepth 100000 in
set_option maxHeartbeats 4000000 in
theorem ts_X3_recount_1 {p : Program} {l : Launch} {e : Env} {R : Room} {s : State} {m : MethodId} {args : Array Value} {below : List Frame} {meth : Method} {c : Code} {cells slots : Nat} {Q : State → Prop} {D : va_G} {C : CI3} {A : Nat → Prop} {ad : Nat → Nat} {E : Ex} {env : Nat → Mf} {d : Nat} (X : Cx p R s m args c cX3_recount 4 RX3 D C A ad SH E) (hR : d ≤ R.frames ∧ 100 * d ≤ R.locals) (hcs : cells ≤ R.cells ∧ slots ≤ R.slots) (hd1 : 1 ≤ d) {d_J7_fill_53178 : Nat} (h_J7_fill_53178 : CM l SH E yJ7_fill_53178 cJ7_fill_53178 4 (none) d_J7_fill_53178 (env 119)) (hd_J7_fill_53178 : d_J7_fill_53178 + 1 ≤ d) {d_X2_hasRow : Nat} (h_X2_hasRow : CM l SH E yX2_hasRow cX2_hasRow 2 (some .boolean) d_X2_hasRow (env 11)) (hd_X2_hasRow : d_X2_hasRow + 1 ≤ d) {d_X2_compared : Nat} (h_X2_compared : CM l SH E yX2_compared cX2_compared 5 (some .int) d_X2_compared (env 18)) (hd_X2_compared : d_X2_compared + 1 ≤ d) {d_X3_sumUp : Nat} (h_X3_sumUp : CM l SH E yX3_sumUp cX3_sumUp 6 (none) d_X3_sumUp (env 22)) (hd_X3_sumUp : d_X3_sumUp + 1 ≤ d) {d_X3_halveEven : Nat} (h_X3_halveEven : CM l SH E yX3_halveEven cX3_halveEven 3 (none) d_X3_halveEven (env 23)) (hd_X3_halveEven : d_X3_halveEven + 1 ≤ d) : ∀ q ∈ T_X3_recount_1 E env, SS p l e R s m args below meth c cells slots Q D C A ad SH 4 cX3_recount (none) q.1 q.2 := by
  unfold T_X3_recount_1
  refine List.forall_mem_cons.mpr ⟨s_aload_n (pc := 72) X (i := 0) (by decide +kernel) rfl, ?_⟩
  refine List.forall_mem_cons.mpr ⟨s_getR (pc := 73) X (idx := 9) (by decide +kernel) inTX3 rfl (by decide) lk_RX3_9 rfl, ?_⟩
  refine List.forall_mem_cons.mpr ⟨s_iconst (pc := 76) X (n := 0) (by decide +kernel) (by decide), ?_⟩
  refine List.forall_mem_cons.mpr ⟨s_aload_n (pc := 77) X (i := 0) (by decide +kernel) rfl, ?_⟩
  refine List.forall_mem_cons.mpr ⟨s_getR (pc := 78) X (idx := 15) (by decide +kernel) inTX3 rfl (by decide) lk_RX3_15 rfl, ?_⟩
  refine List.forall_mem_cons.mpr ⟨s_iconst (pc := 81) X (n := 0) (by decide +kernel) (by decide), ?_⟩
  refine List.forall_mem_cons.mpr ⟨s_sipush (pc := 82) X (n := 625) (by decide +kernel) (by decide), ?_⟩
  refine List.forall_mem_cons.mpr ⟨s_copy (pc := 85) X (idx := 34) (by decide +kernel) lk_RX3_34 lk_nat lk_acs lk_sys ⟨Nat.le_trans hd1 hR.1, Nat.le_trans (Nat.mul_le_mul_left 100 hd1) hR.2⟩, ?_⟩
  refine List.forall_mem_cons.mpr ⟨s_iconst (pc := 88) X (n := 0) (by decide +kernel) (by decide), ?_⟩
  refine List.forall_mem_cons.mpr ⟨s_istore_n (pc := 89) X (i := 2) (by decide +kernel) rfl (by decide), ?_⟩
  refine List.forall_mem_cons.mpr ⟨s_iload_n (pc := 90) X (i := 2) (by decide +kernel) rfl, ?_⟩
  refine List.forall_mem_cons.mpr ⟨s_aload_n (pc := 91) X (i := 1) (by decide +kernel) rfl, ?_⟩
  refine List.forall_mem_cons.mpr ⟨s_getI (pc := 92) X (idx := 40) (by decide +kernel) inTX2 rfl (by decide) lk_RX3_40 rfl, ?_⟩
  refine List.forall_mem_cons.mpr ⟨s_ge (pc := 95) X (off := 22) (by decide +kernel) (by decide), ?_⟩
  refine List.forall_mem_cons.mpr ⟨s_aload_n (pc := 98) X (i := 0) (by decide +kernel) rfl, ?_⟩
  refine List.forall_mem_cons.mpr ⟨s_iload_n (pc := 99) X (i := 2) (by decide +kernel) rfl, ?_⟩
  refine List.forall_mem_cons.mpr ⟨s_getsN (pc := 100) X (idx := 44) (by decide +kernel) (by simp [NW]), ?_⟩
  refine List.forall_mem_cons.mpr ⟨s_aload_n (pc := 103) X (i := 1) (by decide +kernel) rfl, ?_⟩
  refine List.forall_mem_cons.mpr ⟨s_getI (pc := 104) X (idx := 40) (by decide +kernel) inTX2 rfl (by decide) lk_RX3_40 rfl, ?_⟩
  refine List.forall_mem_cons.mpr ⟨s_iald (pc := 107) X (by decide +kernel), ?_⟩
  refine List.forall_mem_cons.mpr ⟨s_callV (pc := 108) X (idx := 47) (by decide +kernel) h_X3_sumUp rfl lk_RX3_47 ls_X3_sumUp lz_X3_sumUp li_RX3 lc_X3_sumUp hv_X3_sumUp ⟨Nat.le_trans hd_X3_sumUp hR.1, Nat.le_trans (by have := hd_X3_sumUp; omega) hR.2⟩ hcs, ?_⟩
  refine List.forall_mem_cons.mpr ⟨s_iinc (pc := 111) X (n := 1) (by decide +kernel) (by decide) (by decide), ?_⟩
  refine List.forall_mem_cons.mpr ⟨s_goto (pc := 114) X (off := -24) (by decide +kernel) (by decide), ?_⟩
  refine List.forall_mem_cons.mpr ⟨s_aload_n (pc := 117) X (i := 0) (by decide +kernel) rfl, ?_⟩
  refine List.forall_mem_cons.mpr ⟨s_getsN (pc := 118) X (idx := 44) (by decide +kernel) (by simp [NW]), ?_⟩
  refine List.forall_mem_cons.mpr ⟨s_aload_n (pc := 121) X (i := 1) (by decide +kernel) rfl, ?_⟩
  refine List.forall_mem_cons.mpr ⟨s_getI (pc := 122) X (idx := 40) (by decide +kernel) inTX2 rfl (by decide) lk_RX3_40 rfl, ?_⟩
  refine List.forall_mem_cons.mpr ⟨s_iald (pc := 125) X (by decide +kernel), ?_⟩
  refine List.forall_mem_cons.mpr ⟨s_callV (pc := 126) X (idx := 51) (by decide +kernel) h_X3_halveEven rfl lk_RX3_51 ls_X3_halveEven lz_X3_halveEven li_RX3 lc_X3_halveEven hv_X3_halveEven ⟨Nat.le_trans hd_X3_halveEven hR.1, Nat.le_trans (by have := hd_X3_halveEven; omega) hR.2⟩ hcs, ?_⟩
  refine List.forall_mem_cons.mpr ⟨s_retV (pc := 129) (by decide +kernel), ?_⟩
  exact fun _ h => absurd h List.not_mem_nil
def T_X3_recount (E : Ex) (env : Nat → Mf) : List (Nat × Stq) := T_X3_recount_0 E env ++ (T_X3_recount_1 E env)
theorem ts_X3_recount {p : Program} {l : Launch} {e : Env} {R : Room} {s : State} {m : MethodId} {args : Array Value} {below : List Frame} {meth : Method} {c : Code} {cells slots : Nat} {Q : State → Prop} {D : va_G} {C : CI3} {A : Nat → Prop} {ad : Nat → Nat} {E : Ex} {env : Nat → Mf} {d : Nat} (X : Cx p R s m args c cX3_recount 4 RX3 D C A ad SH E) (hR : d ≤ R.frames ∧ 100 * d ≤ R.locals) (hcs : cells ≤ R.cells ∧ slots ≤ R.slots) (hd1 : 1 ≤ d) {d_J7_fill_53178 : Nat} (h_J7_fill_53178 : CM l SH E yJ7_fill_53178 cJ7_fill_53178 4 (none) d_J7_fill_53178 (env 119)) (hd_J7_fill_53178 : d_J7_fill_53178 + 1 ≤ d) {d_X2_hasRow : Nat} (h_X2_hasRow : CM l SH E yX2_hasRow cX2_hasRow 2 (some .boolean) d_X2_hasRow (env 11)) (hd_X2_hasRow : d_X2_hasRow + 1 ≤ d) {d_X2_compared : Nat} (h_X2_compared : CM l SH E yX2_compared cX2_compared 5 (some .int) d_X2_compared (env 18)) (hd_X2_compared : d_X2_compared + 1 ≤ d) {d_X3_sumUp : Nat} (h_X3_sumUp : CM l SH E yX3_sumUp cX3_sumUp 6 (none) d_X3_sumUp (env 22)) (hd_X3_sumUp : d_X3_sumUp + 1 ≤ d) {d_X3_halveEven : Nat} (h_X3_halveEven : CM l SH E yX3_halveEven cX3_halveEven 3 (none) d_X3_halveEven (env 23)) (hd_X3_halveEven : d_X3_halveEven + 1 ≤ d) : ∀ q ∈ T_X3_recount E env, SS p l e R s m args below meth c cells slots Q D C A ad SH 4 cX3_recount (none) q.1 q.2 := List.forall_mem_append.mpr ⟨ts_X3_recount_0 X hR hcs hd1 h_J7_fill_53178 hd_J7_fill_53178 h_X2_hasRow hd_X2_hasRow h_X2_compared hd_X2_compared h_X3_sumUp hd_X3_sumUp h_X3_halveEven hd_X3_halveEven, ts_X3_recount_1 X hR hcs hd1 h_J7_fill_53178 hd_J7_fill_53178 h_X2_hasRow hd_X2_hasRow h_X2_compared hd_X2_compared h_X3_sumUp hd_X3_sumUp h_X3_halveEven hd_X3_halveEven⟩
def T_X3_sumUp_0 (E : Ex) (env : Nat → Mf) : List (Nat × Stq) := [(0, o_gs 3),
  (3, o_il 4 1),
  (4, o_ia SH E 5),
  (5, o_is 6 3),
  (6, o_ic 7 (0)),
  (7, o_is 9 4),
  (9, o_il 11 4),
  (11, o_il 12 2),
  (12, o_ge 101 15),
  (15, o_il 17 4),
  (17, o_il 18 1),
  (18, o_call env 21 59 2),
  (21, o_ne0 95 24),
  (24, o_al 25 0),
  (25, o_gR SH 28 3 1),
  (28, o_il 30 4),
  (30, o_ic 31 (2)),
  (31, o_il 32 3),
  (32, o_b2 33 (fun x y => x * y)),
  (33, o_b2 34 (fun x y => x + y)),
  (34, o_ia SH E 35),
  (35, o_al 36 0),
  (36, o_gR SH 39 3 1),
  (39, o_il 41 4),
  (41, o_ic 42 (3)),
  (42, o_il 43 3),
  (43, o_b2 44 (fun x y => x * y)),
  (44, o_b2 45 (fun x y => x + y)),
  (45, o_ia SH E 46),
  (46, o_b2 47 (fun x y => x + y)),
  (47, o_al 48 0),
  (48, o_gR SH 51 3 1),
  (51, o_il 53 4),
  (53, o_ic 54 (4)),
  (54, o_il 55 3),
  (55, o_b2 56 (fun x y => x * y)),
  (56, o_b2 57 (fun x y => x + y)),
  (57, o_ia SH E 58),
  (58, o_b2 59 (fun x y => x + y)),
  (59, o_is 61 5)]
set_option maxRecDepth 100000 in
set_option maxHeartbeats 4000000 in
theorem ts_X3_sumUp_0 {p : Program} {l : Launch} {e : Env} {R : Room} {s : State} {m : MethodId} {args : Array Value} {below : List Frame} {meth : Method} {c : Code} {cells slots : Nat} {Q : State → Prop} {D : va_G} {C : CI3} {A : Nat → Prop} {ad : Nat → Nat} {E : Ex} {env : Nat → Mf} {d : Nat} (X : Cx p R s m args c cX3_sumUp 6 RX3 D C A ad SH E) (hR : d ≤ R.frames ∧ 100 * d ≤ R.locals) (hcs : cells ≤ R.cells ∧ slots ≤ R.slots) {d_X4_digitOf : Nat} (h_X4_digitOf : CM l SH E yX4_digitOf cX4_digitOf 2 (some .int) d_X4_digitOf (env 59)) (hd_X4_digitOf : d_X4_digitOf + 1 ≤ d) : ∀ q ∈ T_X3_sumUp_0 E env, SS p l e R s m args below meth c cells slots Q D C A ad SH 6 cX3_sumUp (none) q.1 q.2 := by
  unfold T_X3_sumUp_0
  refine List.forall_mem_cons.mpr ⟨s_getsN (pc := 0) X (idx := 44) (by decide +kernel) (by simp [NW]), ?_⟩
  refine List.forall_mem_cons.mpr ⟨s_iload_n (pc := 3) X (i := 1) (by decide +kernel) rfl, ?_⟩
  refine List.forall_mem_cons.mpr ⟨s_iald (pc := 4) X (by decide +kernel), ?_⟩
  refine List.forall_mem_cons.mpr ⟨s_istore_n (pc := 5) X (i := 3) (by decide +kernel) rfl (by decide), ?_⟩
  refine List.forall_mem_cons.mpr ⟨s_iconst (pc := 6) X (n := 0) (by decide +kernel) (by decide), ?_⟩
  refine List.forall_mem_cons.mpr ⟨s_istore (pc := 7) X (by decide +kernel) (by decide), ?_⟩
  refine List.forall_mem_cons.mpr ⟨s_iload (pc := 9) X (by decide +kernel), ?_⟩
  refine List.forall_mem_cons.mpr ⟨s_iload_n (pc := 11) X (i := 2) (by decide +kernel) rfl, ?_⟩
  refine List.forall_mem_cons.mpr ⟨s_ge (pc := 12) X (off := 89) (by decide +kernel) (by decide), ?_⟩
  refine List.forall_mem_cons.mpr ⟨s_iload (pc := 15) X (by decide +kernel), ?_⟩
  refine List.forall_mem_cons.mpr ⟨s_iload_n (pc := 17) X (i := 1) (by decide +kernel) rfl, ?_⟩
  refine List.forall_mem_cons.mpr ⟨s_callSN (pc := 18) X (idx := 55) (by decide +kernel) h_X4_digitOf (by simp [NW]) ls_X4_digitOf li_RX4 lc_X4_digitOf hy_X4_digitOf ⟨Nat.le_trans hd_X4_digitOf hR.1, Nat.le_trans (by have := hd_X4_digitOf; omega) hR.2⟩ hcs, ?_⟩
  refine List.forall_mem_cons.mpr ⟨s_ne0 (pc := 21) X (off := 74) (by decide +kernel) (by decide), ?_⟩
  refine List.forall_mem_cons.mpr ⟨s_aload_n (pc := 24) X (i := 0) (by decide +kernel) rfl, ?_⟩
  refine List.forall_mem_cons.mpr ⟨s_getR (pc := 25) X (idx := 15) (by decide +kernel) inTX3 rfl (by decide) lk_RX3_15 rfl, ?_⟩
  refine List.forall_mem_cons.mpr ⟨s_iload (pc := 28) X (by decide +kernel), ?_⟩
  refine List.forall_mem_cons.mpr ⟨s_iconst (pc := 30) X (n := 2) (by decide +kernel) (by decide), ?_⟩
  refine List.forall_mem_cons.mpr ⟨s_iload_n (pc := 31) X (i := 3) (by decide +kernel) rfl, ?_⟩
  refine List.forall_mem_cons.mpr ⟨s_imul (pc := 32) X (by decide +kernel), ?_⟩
  refine List.forall_mem_cons.mpr ⟨s_iadd (pc := 33) X (by decide +kernel), ?_⟩
  refine List.forall_mem_cons.mpr ⟨s_iald (pc := 34) X (by decide +kernel), ?_⟩
  refine List.forall_mem_cons.mpr ⟨s_aload_n (pc := 35) X (i := 0) (by decide +kernel) rfl, ?_⟩
  refine List.forall_mem_cons.mpr ⟨s_getR (pc := 36) X (idx := 15) (by decide +kernel) inTX3 rfl (by decide) lk_RX3_15 rfl, ?_⟩
  refine List.forall_mem_cons.mpr ⟨s_iload (pc := 39) X (by decide +kernel), ?_⟩
  refine List.forall_mem_cons.mpr ⟨s_iconst (pc := 41) X (n := 3) (by decide +kernel) (by decide), ?_⟩
  refine List.forall_mem_cons.mpr ⟨s_iload_n (pc := 42) X (i := 3) (by decide +kernel) rfl, ?_⟩
  refine List.forall_mem_cons.mpr ⟨s_imul (pc := 43) X (by decide +kernel), ?_⟩
  refine List.forall_mem_cons.mpr ⟨s_iadd (pc := 44) X (by decide +kernel), ?_⟩
  refine List.forall_mem_cons.mpr ⟨s_iald (pc := 45) X (by decide +kernel), ?_⟩
  refine List.forall_mem_cons.mpr ⟨s_iadd (pc := 46) X (by decide +kernel), ?_⟩
  refine List.forall_mem_cons.mpr ⟨s_aload_n (pc := 47) X (i := 0) (by decide +kernel) rfl, ?_⟩
  refine List.forall_mem_cons.mpr ⟨s_getR (pc := 48) X (idx := 15) (by decide +kernel) inTX3 rfl (by decide) lk_RX3_15 rfl, ?_⟩
  refine List.forall_mem_cons.mpr ⟨s_iload (pc := 51) X (by decide +kernel), ?_⟩
  refine List.forall_mem_cons.mpr ⟨s_iconst (pc := 53) X (n := 4) (by decide +kernel) (by decide), ?_⟩
  refine List.forall_mem_cons.mpr ⟨s_iload_n (pc := 54) X (i := 3) (by decide +kernel) rfl, ?_⟩
  refine List.forall_mem_cons.mpr ⟨s_imul (pc := 55) X (by decide +kernel), ?_⟩
  refine List.forall_mem_cons.mpr ⟨s_iadd (pc := 56) X (by decide +kernel), ?_⟩
  refine List.forall_mem_cons.mpr ⟨s_iald (pc := 57) X (by decide +kernel), ?_⟩
  refine List.forall_mem_cons.mpr ⟨s_iadd (pc := 58) X (by decide +kernel), ?_⟩
  refine List.forall_mem_cons.mpr ⟨s_istore (pc := 59) X (by decide +kernel) (by decide), ?_⟩
  exact fun _ h => absurd h List.not_mem_nil
def T_X3_sumUp_1 (E : Ex) (env : Nat → Mf) : List (Nat × Stq) := [(61, o_al 62 0),
  (62, o_gR SH 65 3 1),
  (65, o_il 67 4),
  (67, o_ic 68 (2)),
  (68, o_il 69 3),
  (69, o_b2 70 (fun x y => x * y)),
  (70, o_b2 71 (fun x y => x + y)),
  (71, o_il 73 5),
  (73, o_is_ SH 74),
  (74, o_al 75 0),
  (75, o_gR SH 78 3 1),
  (78, o_il 80 4),
  (80, o_al 81 0),
  (81, o_gR SH 84 3 1),
  (84, o_il 86 4),
  (86, o_ic 87 (1)),
  (87, o_il 88 3),
  (88, o_b2 89 (fun x y => x * y)),
  (89, o_b2 90 (fun x y => x + y)),
  (90, o_ia SH E 91),
  (91, o_il 93 5),
  (93, o_b2 94 (fun x y => x + y)),
  (94, o_is_ SH 95),
  (95, o_inc 98 4 (1)),
  (98, o_goto 9),
  (101, o_retV)]
set_option maxRecDepth 100000 in
set_option maxHeartbeats 4000000 in
theorem ts_X3_sumUp_1 {p : Program} {l : Launch} {e : Env} {R : Room} {s : State} {m : MethodId} {args : Array Value} {below : List Frame} {meth : Method} {c : Code} {cells slots : Nat} {Q : State → Prop} {D : va_G} {C : CI3} {A : Nat → Prop} {ad : Nat → Nat} {E : Ex} {env : Nat → Mf} {d : Nat} (X : Cx p R s m args c cX3_sumUp 6 RX3 D C A ad SH E) (hR : d ≤ R.frames ∧ 100 * d ≤ R.locals) (hcs : cells ≤ R.cells ∧ slots ≤ R.slots) {d_X4_digitOf : Nat} (h_X4_digitOf : CM l SH E yX4_digitOf cX4_digitOf 2 (some .int) d_X4_digitOf (env 59)) (hd_X4_digitOf : d_X4_digitOf + 1 ≤ d) : ∀ q ∈ T_X3_sumUp_1 E env, SS p l e R s m args below meth c cells slots Q D C A ad SH 6 cX3_sumUp (none) q.1 q.2 := by
  unfold T_X3_sumUp_1
  refine List.forall_mem_cons.mpr ⟨s_aload_n (pc := 61) X (i := 0) (by decide +kernel) rfl, ?_⟩
  refine List.forall_mem_cons.mpr ⟨s_getR (pc := 62) X (idx := 15) (by decide +kernel) inTX3 rfl (by decide) lk_RX3_15 rfl, ?_⟩
  refine List.forall_mem_cons.mpr ⟨s_iload (pc := 65) X (by decide +kernel), ?_⟩
  refine List.forall_mem_cons.mpr ⟨s_iconst (pc := 67) X (n := 2) (by decide +kernel) (by decide), ?_⟩
  refine List.forall_mem_cons.mpr ⟨s_iload_n (pc := 68) X (i := 3) (by decide +kernel) rfl, ?_⟩
  refine List.forall_mem_cons.mpr ⟨s_imul (pc := 69) X (by decide +kernel), ?_⟩
  refine List.forall_mem_cons.mpr ⟨s_iadd (pc := 70) X (by decide +kernel), ?_⟩
  refine List.forall_mem_cons.mpr ⟨s_iload (pc := 71) X (by decide +kernel), ?_⟩
  refine List.forall_mem_cons.mpr ⟨s_iast (pc := 73) X (by decide +kernel), ?_⟩
  refine List.forall_mem_cons.mpr ⟨s_aload_n (pc := 74) X (i := 0) (by decide +kernel) rfl, ?_⟩
  refine List.forall_mem_cons.mpr ⟨s_getR (pc := 75) X (idx := 15) (by decide +kernel) inTX3 rfl (by decide) lk_RX3_15 rfl, ?_⟩
  refine List.forall_mem_cons.mpr ⟨s_iload (pc := 78) X (by decide +kernel), ?_⟩
  refine List.forall_mem_cons.mpr ⟨s_aload_n (pc := 80) X (i := 0) (by decide +kernel) rfl, ?_⟩
  refine List.forall_mem_cons.mpr ⟨s_getR (pc := 81) X (idx := 15) (by decide +kernel) inTX3 rfl (by decide) lk_RX3_15 rfl, ?_⟩
  refine List.forall_mem_cons.mpr ⟨s_iload (pc := 84) X (by decide +kernel), ?_⟩
  refine List.forall_mem_cons.mpr ⟨s_iconst (pc := 86) X (n := 1) (by decide +kernel) (by decide), ?_⟩
  refine List.forall_mem_cons.mpr ⟨s_iload_n (pc := 87) X (i := 3) (by decide +kernel) rfl, ?_⟩
  refine List.forall_mem_cons.mpr ⟨s_imul (pc := 88) X (by decide +kernel), ?_⟩
  refine List.forall_mem_cons.mpr ⟨s_iadd (pc := 89) X (by decide +kernel), ?_⟩
  refine List.forall_mem_cons.mpr ⟨s_iald (pc := 90) X (by decide +kernel), ?_⟩
  refine List.forall_mem_cons.mpr ⟨s_iload (pc := 91) X (by decide +kernel), ?_⟩
  refine List.forall_mem_cons.mpr ⟨s_iadd (pc := 93) X (by decide +kernel), ?_⟩
  refine List.forall_mem_cons.mpr ⟨s_iast (pc := 94) X (by decide +kernel), ?_⟩
  refine List.forall_mem_cons.mpr ⟨s_iinc (pc := 95) X (n := 1) (by decide +kernel) (by decide) (by decide), ?_⟩
  refine List.forall_mem_cons.mpr ⟨s_goto (pc := 98) X (off := -89) (by decide +kernel) (by decide), ?_⟩
  refine List.forall_mem_cons.mpr ⟨s_retV (pc := 101) (by decide +kernel), ?_⟩
  exact fun _ h => absurd h List.not_mem_nil
def T_X3_sumUp (E : Ex) (env : Nat → Mf) : List (Nat × Stq) := T_X3_sumUp_0 E env ++ (T_X3_sumUp_1 E env)
theorem ts_X3_sumUp {p : Program} {l : Launch} {e : Env} {R : Room} {s : State} {m : MethodId} {args : Array Value} {below : List Frame} {meth : Method} {c : Code} {cells slots : Nat} {Q : State → Prop} {D : va_G} {C : CI3} {A : Nat → Prop} {ad : Nat → Nat} {E : Ex} {env : Nat → Mf} {d : Nat} (X : Cx p R s m args c cX3_sumUp 6 RX3 D C A ad SH E) (hR : d ≤ R.frames ∧ 100 * d ≤ R.locals) (hcs : cells ≤ R.cells ∧ slots ≤ R.slots) {d_X4_digitOf : Nat} (h_X4_digitOf : CM l SH E yX4_digitOf cX4_digitOf 2 (some .int) d_X4_digitOf (env 59)) (hd_X4_digitOf : d_X4_digitOf + 1 ≤ d) : ∀ q ∈ T_X3_sumUp E env, SS p l e R s m args below meth c cells slots Q D C A ad SH 6 cX3_sumUp (none) q.1 q.2 := List.forall_mem_append.mpr ⟨ts_X3_sumUp_0 X hR hcs h_X4_digitOf hd_X4_digitOf, ts_X3_sumUp_1 X hR hcs h_X4_digitOf hd_X4_digitOf⟩
def T_X3_halveEven (E : Ex) (env : Nat → Mf) : List (Nat × Stq) := [(0, o_ic 1 (0)),
  (1, o_is 2 2),
  (2, o_il 3 2),
  (3, o_il 4 1),
  (4, o_ge 31 7),
  (7, o_il 8 2),
  (8, o_call env 11 61 1),
  (11, o_il 12 2),
  (12, o_ne 25 15),
  (15, o_al 16 0),
  (16, o_gR SH 19 3 1),
  (19, o_il 20 2),
  (20, o_dup2 21),
  (21, o_ia SH E 22),
  (22, o_ic 23 (2)),
  (23, o_div 24),
  (24, o_is_ SH 25),
  (25, o_inc 28 2 (1)),
  (28, o_goto 2),
  (31, o_retV)]
set_option maxRecDepth 100000 in
set_option maxHeartbeats 4000000 in
theorem ts_X3_halveEven {p : Program} {l : Launch} {e : Env} {R : Room} {s : State} {m : MethodId} {args : Array Value} {below : List Frame} {meth : Method} {c : Code} {cells slots : Nat} {Q : State → Prop} {D : va_G} {C : CI3} {A : Nat → Prop} {ad : Nat → Nat} {E : Ex} {env : Nat → Mf} {d : Nat} (X : Cx p R s m args c cX3_halveEven 3 RX3 D C A ad SH E) (hR : d ≤ R.frames ∧ 100 * d ≤ R.locals) (hcs : cells ≤ R.cells ∧ slots ≤ R.slots) {d_X4_turnedOf : Nat} (h_X4_turnedOf : CM l SH E yX4_turnedOf cX4_turnedOf 4 (some .int) d_X4_turnedOf (env 61)) (hd_X4_turnedOf : d_X4_turnedOf + 1 ≤ d) : ∀ q ∈ T_X3_halveEven E env, SS p l e R s m args below meth c cells slots Q D C A ad SH 3 cX3_halveEven (none) q.1 q.2 := by
  unfold T_X3_halveEven
  refine List.forall_mem_cons.mpr ⟨s_iconst (pc := 0) X (n := 0) (by decide +kernel) (by decide), ?_⟩
  refine List.forall_mem_cons.mpr ⟨s_istore_n (pc := 1) X (i := 2) (by decide +kernel) rfl (by decide), ?_⟩
  refine List.forall_mem_cons.mpr ⟨s_iload_n (pc := 2) X (i := 2) (by decide +kernel) rfl, ?_⟩
  refine List.forall_mem_cons.mpr ⟨s_iload_n (pc := 3) X (i := 1) (by decide +kernel) rfl, ?_⟩
  refine List.forall_mem_cons.mpr ⟨s_ge (pc := 4) X (off := 27) (by decide +kernel) (by decide), ?_⟩
  refine List.forall_mem_cons.mpr ⟨s_iload_n (pc := 7) X (i := 2) (by decide +kernel) rfl, ?_⟩
  refine List.forall_mem_cons.mpr ⟨s_callSN (pc := 8) X (idx := 58) (by decide +kernel) h_X4_turnedOf (by simp [NW]) ls_X4_turnedOf li_RX4 lc_X4_turnedOf hy_X4_turnedOf ⟨Nat.le_trans hd_X4_turnedOf hR.1, Nat.le_trans (by have := hd_X4_turnedOf; omega) hR.2⟩ hcs, ?_⟩
  refine List.forall_mem_cons.mpr ⟨s_iload_n (pc := 11) X (i := 2) (by decide +kernel) rfl, ?_⟩
  refine List.forall_mem_cons.mpr ⟨s_ne (pc := 12) X (off := 13) (by decide +kernel) (by decide), ?_⟩
  refine List.forall_mem_cons.mpr ⟨s_aload_n (pc := 15) X (i := 0) (by decide +kernel) rfl, ?_⟩
  refine List.forall_mem_cons.mpr ⟨s_getR (pc := 16) X (idx := 15) (by decide +kernel) inTX3 rfl (by decide) lk_RX3_15 rfl, ?_⟩
  refine List.forall_mem_cons.mpr ⟨s_iload_n (pc := 19) X (i := 2) (by decide +kernel) rfl, ?_⟩
  refine List.forall_mem_cons.mpr ⟨s_dup2 (pc := 20) X (by decide +kernel), ?_⟩
  refine List.forall_mem_cons.mpr ⟨s_iald (pc := 21) X (by decide +kernel), ?_⟩
  refine List.forall_mem_cons.mpr ⟨s_iconst (pc := 22) X (n := 2) (by decide +kernel) (by decide), ?_⟩
  refine List.forall_mem_cons.mpr ⟨s_idiv (pc := 23) X (by decide +kernel), ?_⟩
  refine List.forall_mem_cons.mpr ⟨s_iast (pc := 24) X (by decide +kernel), ?_⟩
  refine List.forall_mem_cons.mpr ⟨s_iinc (pc := 25) X (n := 1) (by decide +kernel) (by decide) (by decide), ?_⟩
  refine List.forall_mem_cons.mpr ⟨s_goto (pc := 28) X (off := -26) (by decide +kernel) (by decide), ?_⟩
  refine List.forall_mem_cons.mpr ⟨s_retV (pc := 31) (by decide +kernel), ?_⟩
  exact fun _ h => absurd h List.not_mem_nil
def T_X3_unlikeSeen (E : Ex) (env : Nat → Mf) : List (Nat × Stq) := [(0, o_ic 1 (0)),
  (1, o_is 2 1),
  (2, o_ic 3 (0)),
  (3, o_is 4 2),
  (4, o_il 5 2),
  (5, o_ic 8 (625)),
  (8, o_ge 29 11),
  (11, o_al 12 0),
  (12, o_gR SH 15 3 0),
  (15, o_il 16 2),
  (16, o_ia SH E 17),
  (17, o_eq0 23 20),
  (20, o_inc 23 1 (1)),
  (23, o_inc 26 2 (1)),
  (26, o_goto 4),
  (29, o_il 30 1),
  (30, o_ret)]
set_option maxRecDepth 100000 in
set_option maxHeartbeats 4000000 in
theorem ts_X3_unlikeSeen {p : Program} {l : Launch} {e : Env} {R : Room} {s : State} {m : MethodId} {args : Array Value} {below : List Frame} {meth : Method} {c : Code} {cells slots : Nat} {Q : State → Prop} {D : va_G} {C : CI3} {A : Nat → Prop} {ad : Nat → Nat} {E : Ex} {env : Nat → Mf} {d : Nat} (X : Cx p R s m args c cX3_unlikeSeen 3 RX3 D C A ad SH E) (hR : d ≤ R.frames ∧ 100 * d ≤ R.locals) (hcs : cells ≤ R.cells ∧ slots ≤ R.slots) : ∀ q ∈ T_X3_unlikeSeen E env, SS p l e R s m args below meth c cells slots Q D C A ad SH 3 cX3_unlikeSeen (some .int) q.1 q.2 := by
  unfold T_X3_unlikeSeen
  refine List.forall_mem_cons.mpr ⟨s_iconst (pc := 0) X (n := 0) (by decide +kernel) (by decide), ?_⟩
  refine List.forall_mem_cons.mpr ⟨s_istore_n (pc := 1) X (i := 1) (by decide +kernel) rfl (by decide), ?_⟩
  refine List.forall_mem_cons.mpr ⟨s_iconst (pc := 2) X (n := 0) (by decide +kernel) (by decide), ?_⟩
  refine List.forall_mem_cons.mpr ⟨s_istore_n (pc := 3) X (i := 2) (by decide +kernel) rfl (by decide), ?_⟩
  refine List.forall_mem_cons.mpr ⟨s_iload_n (pc := 4) X (i := 2) (by decide +kernel) rfl, ?_⟩
  refine List.forall_mem_cons.mpr ⟨s_sipush (pc := 5) X (n := 625) (by decide +kernel) (by decide), ?_⟩
  refine List.forall_mem_cons.mpr ⟨s_ge (pc := 8) X (off := 21) (by decide +kernel) (by decide), ?_⟩
  refine List.forall_mem_cons.mpr ⟨s_aload_n (pc := 11) X (i := 0) (by decide +kernel) rfl, ?_⟩
  refine List.forall_mem_cons.mpr ⟨s_getR (pc := 12) X (idx := 9) (by decide +kernel) inTX3 rfl (by decide) lk_RX3_9 rfl, ?_⟩
  refine List.forall_mem_cons.mpr ⟨s_iload_n (pc := 15) X (i := 2) (by decide +kernel) rfl, ?_⟩
  refine List.forall_mem_cons.mpr ⟨s_iald (pc := 16) X (by decide +kernel), ?_⟩
  refine List.forall_mem_cons.mpr ⟨s_eq0 (pc := 17) X (off := 6) (by decide +kernel) (by decide), ?_⟩
  refine List.forall_mem_cons.mpr ⟨s_iinc (pc := 20) X (n := 1) (by decide +kernel) (by decide) (by decide), ?_⟩
  refine List.forall_mem_cons.mpr ⟨s_iinc (pc := 23) X (n := 1) (by decide +kernel) (by decide) (by decide), ?_⟩
  refine List.forall_mem_cons.mpr ⟨s_goto (pc := 26) X (off := -22) (by decide +kernel) (by decide), ?_⟩
  refine List.forall_mem_cons.mpr ⟨s_iload_n (pc := 29) X (i := 1) (by decide +kernel) rfl, ?_⟩
  refine List.forall_mem_cons.mpr ⟨s_ret (pc := 30) rfl (by decide +kernel), ?_⟩
  exact fun _ h => absurd h List.not_mem_nil
def T_X3_isFound (E : Ex) (env : Nat → Mf) : List (Nat × Stq) := [(0, o_al 1 0),
  (1, o_gR SH 4 3 1),
  (4, o_il 5 1),
  (5, o_ia SH E 6),
  (6, o_il 7 2),
  (7, o_gt 39 10),
  (10, o_il 11 1),
  (11, o_call env 14 60 1),
  (14, o_il 15 3),
  (15, o_gt 39 18),
  (18, o_il 19 1),
  (19, o_il 20 1),
  (20, o_call env 23 61 1),
  (23, o_gt 39 26),
  (26, o_al 27 0),
  (27, o_il 28 1),
  (28, o_il 29 2),
  (29, o_callV SH env 32 26 2 3),
  (32, o_ne0 39 35),
  (35, o_ic 36 (1)),
  (36, o_goto 40),
  (39, o_ic 40 (0)),
  (40, o_retZ)]
set_option maxRecDepth 100000 in
set_option maxHeartbeats 4000000 in
theorem ts_X3_isFound {p : Program} {l : Launch} {e : Env} {R : Room} {s : State} {m : MethodId} {args : Array Value} {below : List Frame} {meth : Method} {c : Code} {cells slots : Nat} {Q : State → Prop} {D : va_G} {C : CI3} {A : Nat → Prop} {ad : Nat → Nat} {E : Ex} {env : Nat → Mf} {d : Nat} (X : Cx p R s m args c cX3_isFound 4 RX3 D C A ad SH E) (hR : d ≤ R.frames ∧ 100 * d ≤ R.locals) (hcs : cells ≤ R.cells ∧ slots ≤ R.slots) {d_X4_columnsOf : Nat} (h_X4_columnsOf : CM l SH E yX4_columnsOf cX4_columnsOf 3 (some .int) d_X4_columnsOf (env 60)) (hd_X4_columnsOf : d_X4_columnsOf + 1 ≤ d) {d_X4_turnedOf : Nat} (h_X4_turnedOf : CM l SH E yX4_turnedOf cX4_turnedOf 4 (some .int) d_X4_turnedOf (env 61)) (hd_X4_turnedOf : d_X4_turnedOf + 1 ≤ d) {d_X3_hasWiderNear : Nat} (h_X3_hasWiderNear : CM l SH E yX3_hasWiderNear cX3_hasWiderNear 6 (some .boolean) d_X3_hasWiderNear (env 26)) (hd_X3_hasWiderNear : d_X3_hasWiderNear + 1 ≤ d) : ∀ q ∈ T_X3_isFound E env, SS p l e R s m args below meth c cells slots Q D C A ad SH 4 cX3_isFound (some .boolean) q.1 q.2 := by
  unfold T_X3_isFound
  refine List.forall_mem_cons.mpr ⟨s_aload_n (pc := 0) X (i := 0) (by decide +kernel) rfl, ?_⟩
  refine List.forall_mem_cons.mpr ⟨s_getR (pc := 1) X (idx := 15) (by decide +kernel) inTX3 rfl (by decide) lk_RX3_15 rfl, ?_⟩
  refine List.forall_mem_cons.mpr ⟨s_iload_n (pc := 4) X (i := 1) (by decide +kernel) rfl, ?_⟩
  refine List.forall_mem_cons.mpr ⟨s_iald (pc := 5) X (by decide +kernel), ?_⟩
  refine List.forall_mem_cons.mpr ⟨s_iload_n (pc := 6) X (i := 2) (by decide +kernel) rfl, ?_⟩
  refine List.forall_mem_cons.mpr ⟨s_gt (pc := 7) X (off := 32) (by decide +kernel) (by decide), ?_⟩
  refine List.forall_mem_cons.mpr ⟨s_iload_n (pc := 10) X (i := 1) (by decide +kernel) rfl, ?_⟩
  refine List.forall_mem_cons.mpr ⟨s_callSN (pc := 11) X (idx := 62) (by decide +kernel) h_X4_columnsOf (by simp [NW]) ls_X4_columnsOf li_RX4 lc_X4_columnsOf hy_X4_columnsOf ⟨Nat.le_trans hd_X4_columnsOf hR.1, Nat.le_trans (by have := hd_X4_columnsOf; omega) hR.2⟩ hcs, ?_⟩
  refine List.forall_mem_cons.mpr ⟨s_iload_n (pc := 14) X (i := 3) (by decide +kernel) rfl, ?_⟩
  refine List.forall_mem_cons.mpr ⟨s_gt (pc := 15) X (off := 24) (by decide +kernel) (by decide), ?_⟩
  refine List.forall_mem_cons.mpr ⟨s_iload_n (pc := 18) X (i := 1) (by decide +kernel) rfl, ?_⟩
  refine List.forall_mem_cons.mpr ⟨s_iload_n (pc := 19) X (i := 1) (by decide +kernel) rfl, ?_⟩
  refine List.forall_mem_cons.mpr ⟨s_callSN (pc := 20) X (idx := 58) (by decide +kernel) h_X4_turnedOf (by simp [NW]) ls_X4_turnedOf li_RX4 lc_X4_turnedOf hy_X4_turnedOf ⟨Nat.le_trans hd_X4_turnedOf hR.1, Nat.le_trans (by have := hd_X4_turnedOf; omega) hR.2⟩ hcs, ?_⟩
  refine List.forall_mem_cons.mpr ⟨s_gt (pc := 23) X (off := 16) (by decide +kernel) (by decide), ?_⟩
  refine List.forall_mem_cons.mpr ⟨s_aload_n (pc := 26) X (i := 0) (by decide +kernel) rfl, ?_⟩
  refine List.forall_mem_cons.mpr ⟨s_iload_n (pc := 27) X (i := 1) (by decide +kernel) rfl, ?_⟩
  refine List.forall_mem_cons.mpr ⟨s_iload_n (pc := 28) X (i := 2) (by decide +kernel) rfl, ?_⟩
  refine List.forall_mem_cons.mpr ⟨s_callV (pc := 29) X (idx := 65) (by decide +kernel) h_X3_hasWiderNear rfl lk_RX3_65 ls_X3_hasWiderNear lz_X3_hasWiderNear li_RX3 lc_X3_hasWiderNear hv_X3_hasWiderNear ⟨Nat.le_trans hd_X3_hasWiderNear hR.1, Nat.le_trans (by have := hd_X3_hasWiderNear; omega) hR.2⟩ hcs, ?_⟩
  refine List.forall_mem_cons.mpr ⟨s_ne0 (pc := 32) X (off := 7) (by decide +kernel) (by decide), ?_⟩
  refine List.forall_mem_cons.mpr ⟨s_iconst (pc := 35) X (n := 1) (by decide +kernel) (by decide), ?_⟩
  refine List.forall_mem_cons.mpr ⟨s_goto (pc := 36) X (off := 4) (by decide +kernel) (by decide), ?_⟩
  refine List.forall_mem_cons.mpr ⟨s_iconst (pc := 39) X (n := 0) (by decide +kernel) (by decide), ?_⟩
  refine List.forall_mem_cons.mpr ⟨s_retZ (pc := 40) (by decide +kernel), ?_⟩
  exact fun _ h => absurd h List.not_mem_nil
def T_X3_hasWiderNear_0 (E : Ex) (env : Nat → Mf) : List (Nat × Stq) := [(0, o_ic 1 (0)),
  (1, o_is 2 3),
  (2, o_il 3 3),
  (3, o_ic 4 (4)),
  (4, o_ge 69 7),
  (7, o_il 8 1),
  (8, o_il 9 3),
  (9, o_call env 12 59 2),
  (12, o_is 14 4),
  (14, o_il 15 1),
  (15, o_il 17 4),
  (17, o_ic 18 (2)),
  (18, o_le 28 21),
  (21, o_il 23 4),
  (23, o_ic 24 (2)),
  (24, o_b2 25 (fun x y => x - y)),
  (25, o_goto 30),
  (28, o_il 30 4),
  (30, o_gs 33),
  (33, o_il 34 3),
  (34, o_ia SH E 35),
  (35, o_b2 36 (fun x y => x * y)),
  (36, o_b2 37 (fun x y => x - y)),
  (37, o_is 39 5),
  (39, o_il 41 5),
  (41, o_il 42 1),
  (42, o_eq 63 45),
  (45, o_il 47 5),
  (47, o_eq0 63 50),
  (50, o_al 51 0),
  (51, o_gR SH 54 3 1),
  (54, o_il 56 5),
  (56, o_ia SH E 57),
  (57, o_il 58 2),
  (58, o_gt 63 61),
  (61, o_ic 62 (1)),
  (62, o_retZ),
  (63, o_inc 66 3 (1)),
  (66, o_goto 2),
  (69, o_ic 70 (0))]
set_option maxRecDepth 100000 in
set_option maxHeartbeats 4000000 in
theorem ts_X3_hasWiderNear_0 {p : Program} {l : Launch} {e : Env} {R : Room} {s : State} {m : MethodId} {args : Array Value} {below : List Frame} {meth : Method} {c : Code} {cells slots : Nat} {Q : State → Prop} {D : va_G} {C : CI3} {A : Nat → Prop} {ad : Nat → Nat} {E : Ex} {env : Nat → Mf} {d : Nat} (X : Cx p R s m args c cX3_hasWiderNear 6 RX3 D C A ad SH E) (hR : d ≤ R.frames ∧ 100 * d ≤ R.locals) (hcs : cells ≤ R.cells ∧ slots ≤ R.slots) {d_X4_digitOf : Nat} (h_X4_digitOf : CM l SH E yX4_digitOf cX4_digitOf 2 (some .int) d_X4_digitOf (env 59)) (hd_X4_digitOf : d_X4_digitOf + 1 ≤ d) : ∀ q ∈ T_X3_hasWiderNear_0 E env, SS p l e R s m args below meth c cells slots Q D C A ad SH 6 cX3_hasWiderNear (some .boolean) q.1 q.2 := by
  unfold T_X3_hasWiderNear_0
  refine List.forall_mem_cons.mpr ⟨s_iconst (pc := 0) X (n := 0) (by decide +kernel) (by decide), ?_⟩
  refine List.forall_mem_cons.mpr ⟨s_istore_n (pc := 1) X (i := 3) (by decide +kernel) rfl (by decide), ?_⟩
  refine List.forall_mem_cons.mpr ⟨s_iload_n (pc := 2) X (i := 3) (by decide +kernel) rfl, ?_⟩
  refine List.forall_mem_cons.mpr ⟨s_iconst (pc := 3) X (n := 4) (by decide +kernel) (by decide), ?_⟩
  refine List.forall_mem_cons.mpr ⟨s_ge (pc := 4) X (off := 65) (by decide +kernel) (by decide), ?_⟩
  refine List.forall_mem_cons.mpr ⟨s_iload_n (pc := 7) X (i := 1) (by decide +kernel) rfl, ?_⟩
  refine List.forall_mem_cons.mpr ⟨s_iload_n (pc := 8) X (i := 3) (by decide +kernel) rfl, ?_⟩
  refine List.forall_mem_cons.mpr ⟨s_callSN (pc := 9) X (idx := 55) (by decide +kernel) h_X4_digitOf (by simp [NW]) ls_X4_digitOf li_RX4 lc_X4_digitOf hy_X4_digitOf ⟨Nat.le_trans hd_X4_digitOf hR.1, Nat.le_trans (by have := hd_X4_digitOf; omega) hR.2⟩ hcs, ?_⟩
  refine List.forall_mem_cons.mpr ⟨s_istore (pc := 12) X (by decide +kernel) (by decide), ?_⟩
  refine List.forall_mem_cons.mpr ⟨s_iload_n (pc := 14) X (i := 1) (by decide +kernel) rfl, ?_⟩
  refine List.forall_mem_cons.mpr ⟨s_iload (pc := 15) X (by decide +kernel), ?_⟩
  refine List.forall_mem_cons.mpr ⟨s_iconst (pc := 17) X (n := 2) (by decide +kernel) (by decide), ?_⟩
  refine List.forall_mem_cons.mpr ⟨s_le (pc := 18) X (off := 10) (by decide +kernel) (by decide), ?_⟩
  refine List.forall_mem_cons.mpr ⟨s_iload (pc := 21) X (by decide +kernel), ?_⟩
  refine List.forall_mem_cons.mpr ⟨s_iconst (pc := 23) X (n := 2) (by decide +kernel) (by decide), ?_⟩
  refine List.forall_mem_cons.mpr ⟨s_isub (pc := 24) X (by decide +kernel), ?_⟩
  refine List.forall_mem_cons.mpr ⟨s_goto (pc := 25) X (off := 5) (by decide +kernel) (by decide), ?_⟩
  refine List.forall_mem_cons.mpr ⟨s_iload (pc := 28) X (by decide +kernel), ?_⟩
  refine List.forall_mem_cons.mpr ⟨s_getsN (pc := 30) X (idx := 44) (by decide +kernel) (by simp [NW]), ?_⟩
  refine List.forall_mem_cons.mpr ⟨s_iload_n (pc := 33) X (i := 3) (by decide +kernel) rfl, ?_⟩
  refine List.forall_mem_cons.mpr ⟨s_iald (pc := 34) X (by decide +kernel), ?_⟩
  refine List.forall_mem_cons.mpr ⟨s_imul (pc := 35) X (by decide +kernel), ?_⟩
  refine List.forall_mem_cons.mpr ⟨s_isub (pc := 36) X (by decide +kernel), ?_⟩
  refine List.forall_mem_cons.mpr ⟨s_istore (pc := 37) X (by decide +kernel) (by decide), ?_⟩
  refine List.forall_mem_cons.mpr ⟨s_iload (pc := 39) X (by decide +kernel), ?_⟩
  refine List.forall_mem_cons.mpr ⟨s_iload_n (pc := 41) X (i := 1) (by decide +kernel) rfl, ?_⟩
  refine List.forall_mem_cons.mpr ⟨s_eq (pc := 42) X (off := 21) (by decide +kernel) (by decide), ?_⟩
  refine List.forall_mem_cons.mpr ⟨s_iload (pc := 45) X (by decide +kernel), ?_⟩
  refine List.forall_mem_cons.mpr ⟨s_eq0 (pc := 47) X (off := 16) (by decide +kernel) (by decide), ?_⟩
  refine List.forall_mem_cons.mpr ⟨s_aload_n (pc := 50) X (i := 0) (by decide +kernel) rfl, ?_⟩
  refine List.forall_mem_cons.mpr ⟨s_getR (pc := 51) X (idx := 15) (by decide +kernel) inTX3 rfl (by decide) lk_RX3_15 rfl, ?_⟩
  refine List.forall_mem_cons.mpr ⟨s_iload (pc := 54) X (by decide +kernel), ?_⟩
  refine List.forall_mem_cons.mpr ⟨s_iald (pc := 56) X (by decide +kernel), ?_⟩
  refine List.forall_mem_cons.mpr ⟨s_iload_n (pc := 57) X (i := 2) (by decide +kernel) rfl, ?_⟩
  refine List.forall_mem_cons.mpr ⟨s_gt (pc := 58) X (off := 5) (by decide +kernel) (by decide), ?_⟩
  refine List.forall_mem_cons.mpr ⟨s_iconst (pc := 61) X (n := 1) (by decide +kernel) (by decide), ?_⟩
  refine List.forall_mem_cons.mpr ⟨s_retZ (pc := 62) (by decide +kernel), ?_⟩
  refine List.forall_mem_cons.mpr ⟨s_iinc (pc := 63) X (n := 1) (by decide +kernel) (by decide) (by decide), ?_⟩
  refine List.forall_mem_cons.mpr ⟨s_goto (pc := 66) X (off := -64) (by decide +kernel) (by decide), ?_⟩
  refine List.forall_mem_cons.mpr ⟨s_iconst (pc := 69) X (n := 0) (by decide +kernel) (by decide), ?_⟩
  exact fun _ h => absurd h List.not_mem_nil
def T_X3_hasWiderNear_1 (E : Ex) (env : Nat → Mf) : List (Nat × Stq) := [(70, o_retZ)]
set_option maxRecDepth 100000 in
set_option maxHeartbeats 4000000 in
theorem ts_X3_hasWiderNear_1 {p : Program} {l : Launch} {e : Env} {R : Room} {s : State} {m : MethodId} {args : Array Value} {below : List Frame} {meth : Method} {c : Code} {cells slots : Nat} {Q : State → Prop} {D : va_G} {C : CI3} {A : Nat → Prop} {ad : Nat → Nat} {E : Ex} {env : Nat → Mf} {d : Nat} (X : Cx p R s m args c cX3_hasWiderNear 6 RX3 D C A ad SH E) (hR : d ≤ R.frames ∧ 100 * d ≤ R.locals) (hcs : cells ≤ R.cells ∧ slots ≤ R.slots) {d_X4_digitOf : Nat} (h_X4_digitOf : CM l SH E yX4_digitOf cX4_digitOf 2 (some .int) d_X4_digitOf (env 59)) (hd_X4_digitOf : d_X4_digitOf + 1 ≤ d) : ∀ q ∈ T_X3_hasWiderNear_1 E env, SS p l e R s m args below meth c cells slots Q D C A ad SH 6 cX3_hasWiderNear (some .boolean) q.1 q.2 := by
  unfold T_X3_hasWiderNear_1
  refine List.forall_mem_cons.mpr ⟨s_retZ (pc := 70) (by decide +kernel), ?_⟩
  exact fun _ h => absurd h List.not_mem_nil
def T_X3_hasWiderNear (E : Ex) (env : Nat → Mf) : List (Nat × Stq) := T_X3_hasWiderNear_0 E env ++ (T_X3_hasWiderNear_1 E env)
theorem ts_X3_hasWiderNear {p : Program} {l : Launch} {e : Env} {R : Room} {s : State} {m : MethodId} {args : Array Value} {below : List Frame} {meth : Method} {c : Code} {cells slots : Nat} {Q : State → Prop} {D : va_G} {C : CI3} {A : Nat → Prop} {ad : Nat → Nat} {E : Ex} {env : Nat → Mf} {d : Nat} (X : Cx p R s m args c cX3_hasWiderNear 6 RX3 D C A ad SH E) (hR : d ≤ R.frames ∧ 100 * d ≤ R.locals) (hcs : cells ≤ R.cells ∧ slots ≤ R.slots) {d_X4_digitOf : Nat} (h_X4_digitOf : CM l SH E yX4_digitOf cX4_digitOf 2 (some .int) d_X4_digitOf (env 59)) (hd_X4_digitOf : d_X4_digitOf + 1 ≤ d) : ∀ q ∈ T_X3_hasWiderNear E env, SS p l e R s m args below meth c cells slots Q D C A ad SH 6 cX3_hasWiderNear (some .boolean) q.1 q.2 := List.forall_mem_append.mpr ⟨ts_X3_hasWiderNear_0 X hR hcs h_X4_digitOf hd_X4_digitOf, ts_X3_hasWiderNear_1 X hR hcs h_X4_digitOf hd_X4_digitOf⟩
def T_X3_isLeastKey (E : Ex) (env : Nat → Mf) : List (Nat × Stq) := [(0, o_al 1 0),
  (1, o_gR SH 4 3 1),
  (4, o_il 5 1),
  (5, o_call env 8 63 1),
  (8, o_ia SH E 9),
  (9, o_eq0 14 12),
  (12, o_ic 13 (0)),
  (13, o_retZ),
  (14, o_ic 15 (0)),
  (15, o_is 16 2),
  (16, o_il 17 2),
  (17, o_ic 18 (4)),
  (18, o_ge 54 21),
  (21, o_il 22 1),
  (22, o_il 23 2),
  (23, o_b2 24 (fun x y => x >>> (y &&& 31))),
  (24, o_ic 25 (1)),
  (25, o_b2 26 (fun x y => x &&& y)),
  (26, o_ic 27 (1)),
  (27, o_ne 48 30),
  (30, o_al 31 0),
  (31, o_gR SH 34 3 1),
  (34, o_il 35 1),
  (35, o_ic 36 (1)),
  (36, o_il 37 2),
  (37, o_b2 38 (fun x y => x <<< (y &&& 31))),
  (38, o_b2 39 (fun x y => x - y)),
  (39, o_call env 42 63 1),
  (42, o_ia SH E 43),
  (43, o_ne0 48 46),
  (46, o_ic 47 (0)),
  (47, o_retZ),
  (48, o_inc 51 2 (1)),
  (51, o_goto 16),
  (54, o_ic 55 (1)),
  (55, o_retZ)]
set_option maxRecDepth 100000 in
set_option maxHeartbeats 4000000 in
theorem ts_X3_isLeastKey {p : Program} {l : Launch} {e : Env} {R : Room} {s : State} {m : MethodId} {args : Array Value} {below : List Frame} {meth : Method} {c : Code} {cells slots : Nat} {Q : State → Prop} {D : va_G} {C : CI3} {A : Nat → Prop} {ad : Nat → Nat} {E : Ex} {env : Nat → Mf} {d : Nat} (X : Cx p R s m args c cX3_isLeastKey 3 RX3 D C A ad SH E) (hR : d ≤ R.frames ∧ 100 * d ≤ R.locals) (hcs : cells ≤ R.cells ∧ slots ≤ R.slots) {d_X4_alikeLaw : Nat} (h_X4_alikeLaw : CM l SH E yX4_alikeLaw cX4_alikeLaw 3 (some .int) d_X4_alikeLaw (env 63)) (hd_X4_alikeLaw : d_X4_alikeLaw + 1 ≤ d) : ∀ q ∈ T_X3_isLeastKey E env, SS p l e R s m args below meth c cells slots Q D C A ad SH 3 cX3_isLeastKey (some .boolean) q.1 q.2 := by
  unfold T_X3_isLeastKey
  refine List.forall_mem_cons.mpr ⟨s_aload_n (pc := 0) X (i := 0) (by decide +kernel) rfl, ?_⟩
  refine List.forall_mem_cons.mpr ⟨s_getR (pc := 1) X (idx := 15) (by decide +kernel) inTX3 rfl (by decide) lk_RX3_15 rfl, ?_⟩
  refine List.forall_mem_cons.mpr ⟨s_iload_n (pc := 4) X (i := 1) (by decide +kernel) rfl, ?_⟩
  refine List.forall_mem_cons.mpr ⟨s_callSN (pc := 5) X (idx := 69) (by decide +kernel) h_X4_alikeLaw (by simp [NW]) ls_X4_alikeLaw li_RX4 lc_X4_alikeLaw hy_X4_alikeLaw ⟨Nat.le_trans hd_X4_alikeLaw hR.1, Nat.le_trans (by have := hd_X4_alikeLaw; omega) hR.2⟩ hcs, ?_⟩
  refine List.forall_mem_cons.mpr ⟨s_iald (pc := 8) X (by decide +kernel), ?_⟩
  refine List.forall_mem_cons.mpr ⟨s_eq0 (pc := 9) X (off := 5) (by decide +kernel) (by decide), ?_⟩
  refine List.forall_mem_cons.mpr ⟨s_iconst (pc := 12) X (n := 0) (by decide +kernel) (by decide), ?_⟩
  refine List.forall_mem_cons.mpr ⟨s_retZ (pc := 13) (by decide +kernel), ?_⟩
  refine List.forall_mem_cons.mpr ⟨s_iconst (pc := 14) X (n := 0) (by decide +kernel) (by decide), ?_⟩
  refine List.forall_mem_cons.mpr ⟨s_istore_n (pc := 15) X (i := 2) (by decide +kernel) rfl (by decide), ?_⟩
  refine List.forall_mem_cons.mpr ⟨s_iload_n (pc := 16) X (i := 2) (by decide +kernel) rfl, ?_⟩
  refine List.forall_mem_cons.mpr ⟨s_iconst (pc := 17) X (n := 4) (by decide +kernel) (by decide), ?_⟩
  refine List.forall_mem_cons.mpr ⟨s_ge (pc := 18) X (off := 36) (by decide +kernel) (by decide), ?_⟩
  refine List.forall_mem_cons.mpr ⟨s_iload_n (pc := 21) X (i := 1) (by decide +kernel) rfl, ?_⟩
  refine List.forall_mem_cons.mpr ⟨s_iload_n (pc := 22) X (i := 2) (by decide +kernel) rfl, ?_⟩
  refine List.forall_mem_cons.mpr ⟨s_ishr (pc := 23) X (by decide +kernel), ?_⟩
  refine List.forall_mem_cons.mpr ⟨s_iconst (pc := 24) X (n := 1) (by decide +kernel) (by decide), ?_⟩
  refine List.forall_mem_cons.mpr ⟨s_iand (pc := 25) X (by decide +kernel), ?_⟩
  refine List.forall_mem_cons.mpr ⟨s_iconst (pc := 26) X (n := 1) (by decide +kernel) (by decide), ?_⟩
  refine List.forall_mem_cons.mpr ⟨s_ne (pc := 27) X (off := 21) (by decide +kernel) (by decide), ?_⟩
  refine List.forall_mem_cons.mpr ⟨s_aload_n (pc := 30) X (i := 0) (by decide +kernel) rfl, ?_⟩
  refine List.forall_mem_cons.mpr ⟨s_getR (pc := 31) X (idx := 15) (by decide +kernel) inTX3 rfl (by decide) lk_RX3_15 rfl, ?_⟩
  refine List.forall_mem_cons.mpr ⟨s_iload_n (pc := 34) X (i := 1) (by decide +kernel) rfl, ?_⟩
  refine List.forall_mem_cons.mpr ⟨s_iconst (pc := 35) X (n := 1) (by decide +kernel) (by decide), ?_⟩
  refine List.forall_mem_cons.mpr ⟨s_iload_n (pc := 36) X (i := 2) (by decide +kernel) rfl, ?_⟩
  refine List.forall_mem_cons.mpr ⟨s_ishl (pc := 37) X (by decide +kernel), ?_⟩
  refine List.forall_mem_cons.mpr ⟨s_isub (pc := 38) X (by decide +kernel), ?_⟩
  refine List.forall_mem_cons.mpr ⟨s_callSN (pc := 39) X (idx := 69) (by decide +kernel) h_X4_alikeLaw (by simp [NW]) ls_X4_alikeLaw li_RX4 lc_X4_alikeLaw hy_X4_alikeLaw ⟨Nat.le_trans hd_X4_alikeLaw hR.1, Nat.le_trans (by have := hd_X4_alikeLaw; omega) hR.2⟩ hcs, ?_⟩
  refine List.forall_mem_cons.mpr ⟨s_iald (pc := 42) X (by decide +kernel), ?_⟩
  refine List.forall_mem_cons.mpr ⟨s_ne0 (pc := 43) X (off := 5) (by decide +kernel) (by decide), ?_⟩
  refine List.forall_mem_cons.mpr ⟨s_iconst (pc := 46) X (n := 0) (by decide +kernel) (by decide), ?_⟩
  refine List.forall_mem_cons.mpr ⟨s_retZ (pc := 47) (by decide +kernel), ?_⟩
  refine List.forall_mem_cons.mpr ⟨s_iinc (pc := 48) X (n := 1) (by decide +kernel) (by decide) (by decide), ?_⟩
  refine List.forall_mem_cons.mpr ⟨s_goto (pc := 51) X (off := -35) (by decide +kernel) (by decide), ?_⟩
  refine List.forall_mem_cons.mpr ⟨s_iconst (pc := 54) X (n := 1) (by decide +kernel) (by decide), ?_⟩
  refine List.forall_mem_cons.mpr ⟨s_retZ (pc := 55) (by decide +kernel), ?_⟩
  exact fun _ h => absurd h List.not_mem_nil
def T_J6_bitCount_0f7a4_0 (E : Ex) (env : Nat → Mf) : List (Nat × Stq) := [(0, o_il 1 0),
  (1, o_il 2 0),
  (2, o_ic 3 (1)),
  (3, o_b2 4 (fun x y => (x.toUInt32 >>> (y.toUInt32 &&& Int32.toUInt32 31)).toInt32)),
  (4, o_ic 7 (1431655765)),
  (7, o_b2 8 (fun x y => x &&& y)),
  (8, o_b2 9 (fun x y => x - y)),
  (9, o_is 10 0),
  (10, o_il 11 0),
  (11, o_ic 14 (858993459)),
  (14, o_b2 15 (fun x y => x &&& y)),
  (15, o_il 16 0),
  (16, o_ic 17 (2)),
  (17, o_b2 18 (fun x y => (x.toUInt32 >>> (y.toUInt32 &&& Int32.toUInt32 31)).toInt32)),
  (18, o_ic 21 (858993459)),
  (21, o_b2 22 (fun x y => x &&& y)),
  (22, o_b2 23 (fun x y => x + y)),
  (23, o_is 24 0),
  (24, o_il 25 0),
  (25, o_il 26 0),
  (26, o_ic 27 (4)),
  (27, o_b2 28 (fun x y => (x.toUInt32 >>> (y.toUInt32 &&& Int32.toUInt32 31)).toInt32)),
  (28, o_b2 29 (fun x y => x + y)),
  (29, o_ic 32 (252645135)),
  (32, o_b2 33 (fun x y => x &&& y)),
  (33, o_is 34 0),
  (34, o_il 35 0),
  (35, o_il 36 0),
  (36, o_ic 38 (8)),
  (38, o_b2 39 (fun x y => (x.toUInt32 >>> (y.toUInt32 &&& Int32.toUInt32 31)).toInt32)),
  (39, o_b2 40 (fun x y => x + y)),
  (40, o_is 41 0),
  (41, o_il 42 0),
  (42, o_il 43 0),
  (43, o_ic 45 (16)),
  (45, o_b2 46 (fun x y => (x.toUInt32 >>> (y.toUInt32 &&& Int32.toUInt32 31)).toInt32)),
  (46, o_b2 47 (fun x y => x + y)),
  (47, o_is 48 0),
  (48, o_il 49 0),
  (49, o_ic 51 (63))]
set_option maxRecDepth 100000 in
set_option maxHeartbeats 4000000 in
theorem ts_J6_bitCount_0f7a4_0 {p : Program} {l : Launch} {e : Env} {R : Room} {s : State} {m : MethodId} {args : Array Value} {below : List Frame} {meth : Method} {c : Code} {cells slots : Nat} {Q : State → Prop} {D : va_G} {C : CI3} {A : Nat → Prop} {ad : Nat → Nat} {E : Ex} {env : Nat → Mf} {d : Nat} (X : Cx p R s m args c cJ6_bitCount_0f7a4 1 RJ6 D C A ad SH E) (hR : d ≤ R.frames ∧ 100 * d ≤ R.locals) (hcs : cells ≤ R.cells ∧ slots ≤ R.slots) : ∀ q ∈ T_J6_bitCount_0f7a4_0 E env, SS p l e R s m args below meth c cells slots Q D C A ad SH 1 cJ6_bitCount_0f7a4 (some .int) q.1 q.2 := by
  unfold T_J6_bitCount_0f7a4_0
  refine List.forall_mem_cons.mpr ⟨s_iload_n (pc := 0) X (i := 0) (by decide +kernel) rfl, ?_⟩
  refine List.forall_mem_cons.mpr ⟨s_iload_n (pc := 1) X (i := 0) (by decide +kernel) rfl, ?_⟩
  refine List.forall_mem_cons.mpr ⟨s_iconst (pc := 2) X (n := 1) (by decide +kernel) (by decide), ?_⟩
  refine List.forall_mem_cons.mpr ⟨s_iushr (pc := 3) X (by decide +kernel), ?_⟩
  refine List.forall_mem_cons.mpr ⟨s_ldcw (pc := 4) X (i := 265) (by decide +kernel) lk_RJ6_c265, ?_⟩
  refine List.forall_mem_cons.mpr ⟨s_iand (pc := 7) X (by decide +kernel), ?_⟩
  refine List.forall_mem_cons.mpr ⟨s_isub (pc := 8) X (by decide +kernel), ?_⟩
  refine List.forall_mem_cons.mpr ⟨s_istore_n (pc := 9) X (i := 0) (by decide +kernel) rfl (by decide), ?_⟩
  refine List.forall_mem_cons.mpr ⟨s_iload_n (pc := 10) X (i := 0) (by decide +kernel) rfl, ?_⟩
  refine List.forall_mem_cons.mpr ⟨s_ldcw (pc := 11) X (i := 266) (by decide +kernel) lk_RJ6_c266, ?_⟩
  refine List.forall_mem_cons.mpr ⟨s_iand (pc := 14) X (by decide +kernel), ?_⟩
  refine List.forall_mem_cons.mpr ⟨s_iload_n (pc := 15) X (i := 0) (by decide +kernel) rfl, ?_⟩
  refine List.forall_mem_cons.mpr ⟨s_iconst (pc := 16) X (n := 2) (by decide +kernel) (by decide), ?_⟩
  refine List.forall_mem_cons.mpr ⟨s_iushr (pc := 17) X (by decide +kernel), ?_⟩
  refine List.forall_mem_cons.mpr ⟨s_ldcw (pc := 18) X (i := 266) (by decide +kernel) lk_RJ6_c266, ?_⟩
  refine List.forall_mem_cons.mpr ⟨s_iand (pc := 21) X (by decide +kernel), ?_⟩
  refine List.forall_mem_cons.mpr ⟨s_iadd (pc := 22) X (by decide +kernel), ?_⟩
  refine List.forall_mem_cons.mpr ⟨s_istore_n (pc := 23) X (i := 0) (by decide +kernel) rfl (by decide), ?_⟩
  refine List.forall_mem_cons.mpr ⟨s_iload_n (pc := 24) X (i := 0) (by decide +kernel) rfl, ?_⟩
  refine List.forall_mem_cons.mpr ⟨s_iload_n (pc := 25) X (i := 0) (by decide +kernel) rfl, ?_⟩
  refine List.forall_mem_cons.mpr ⟨s_iconst (pc := 26) X (n := 4) (by decide +kernel) (by decide), ?_⟩
  refine List.forall_mem_cons.mpr ⟨s_iushr (pc := 27) X (by decide +kernel), ?_⟩
  refine List.forall_mem_cons.mpr ⟨s_iadd (pc := 28) X (by decide +kernel), ?_⟩
  refine List.forall_mem_cons.mpr ⟨s_ldcw (pc := 29) X (i := 267) (by decide +kernel) lk_RJ6_c267, ?_⟩
  refine List.forall_mem_cons.mpr ⟨s_iand (pc := 32) X (by decide +kernel), ?_⟩
  refine List.forall_mem_cons.mpr ⟨s_istore_n (pc := 33) X (i := 0) (by decide +kernel) rfl (by decide), ?_⟩
  refine List.forall_mem_cons.mpr ⟨s_iload_n (pc := 34) X (i := 0) (by decide +kernel) rfl, ?_⟩
  refine List.forall_mem_cons.mpr ⟨s_iload_n (pc := 35) X (i := 0) (by decide +kernel) rfl, ?_⟩
  refine List.forall_mem_cons.mpr ⟨s_bipush (pc := 36) X (n := 8) (by decide +kernel) (by decide), ?_⟩
  refine List.forall_mem_cons.mpr ⟨s_iushr (pc := 38) X (by decide +kernel), ?_⟩
  refine List.forall_mem_cons.mpr ⟨s_iadd (pc := 39) X (by decide +kernel), ?_⟩
  refine List.forall_mem_cons.mpr ⟨s_istore_n (pc := 40) X (i := 0) (by decide +kernel) rfl (by decide), ?_⟩
  refine List.forall_mem_cons.mpr ⟨s_iload_n (pc := 41) X (i := 0) (by decide +kernel) rfl, ?_⟩
  refine List.forall_mem_cons.mpr ⟨s_iload_n (pc := 42) X (i := 0) (by decide +kernel) rfl, ?_⟩
  refine List.forall_mem_cons.mpr ⟨s_bipush (pc := 43) X (n := 16) (by decide +kernel) (by decide), ?_⟩
  refine List.forall_mem_cons.mpr ⟨s_iushr (pc := 45) X (by decide +kernel), ?_⟩
  refine List.forall_mem_cons.mpr ⟨s_iadd (pc := 46) X (by decide +kernel), ?_⟩
  refine List.forall_mem_cons.mpr ⟨s_istore_n (pc := 47) X (i := 0) (by decide +kernel) rfl (by decide), ?_⟩
  refine List.forall_mem_cons.mpr ⟨s_iload_n (pc := 48) X (i := 0) (by decide +kernel) rfl, ?_⟩
  refine List.forall_mem_cons.mpr ⟨s_bipush (pc := 49) X (n := 63) (by decide +kernel) (by decide), ?_⟩
  exact fun _ h => absurd h List.not_mem_nil
def T_J6_bitCount_0f7a4_1 (E : Ex) (env : Nat → Mf) : List (Nat × Stq) := [(51, o_b2 52 (fun x y => x &&& y)),
  (52, o_ret)]
set_option maxRecDepth 100000 in
set_option maxHeartbeats 4000000 in
theorem ts_J6_bitCount_0f7a4_1 {p : Program} {l : Launch} {e : Env} {R : Room} {s : State} {m : MethodId} {args : Array Value} {below : List Frame} {meth : Method} {c : Code} {cells slots : Nat} {Q : State → Prop} {D : va_G} {C : CI3} {A : Nat → Prop} {ad : Nat → Nat} {E : Ex} {env : Nat → Mf} {d : Nat} (X : Cx p R s m args c cJ6_bitCount_0f7a4 1 RJ6 D C A ad SH E) (hR : d ≤ R.frames ∧ 100 * d ≤ R.locals) (hcs : cells ≤ R.cells ∧ slots ≤ R.slots) : ∀ q ∈ T_J6_bitCount_0f7a4_1 E env, SS p l e R s m args below meth c cells slots Q D C A ad SH 1 cJ6_bitCount_0f7a4 (some .int) q.1 q.2 := by
  unfold T_J6_bitCount_0f7a4_1
  refine List.forall_mem_cons.mpr ⟨s_iand (pc := 51) X (by decide +kernel), ?_⟩
  refine List.forall_mem_cons.mpr ⟨s_ret (pc := 52) rfl (by decide +kernel), ?_⟩
  exact fun _ h => absurd h List.not_mem_nil
def T_J6_bitCount_0f7a4 (E : Ex) (env : Nat → Mf) : List (Nat × Stq) := T_J6_bitCount_0f7a4_0 E env ++ (T_J6_bitCount_0f7a4_1 E env)
theorem ts_J6_bitCount_0f7a4 {p : Program} {l : Launch} {e : Env} {R : Room} {s : State} {m : MethodId} {args : Array Value} {below : List Frame} {meth : Method} {c : Code} {cells slots : Nat} {Q : State → Prop} {D : va_G} {C : CI3} {A : Nat → Prop} {ad : Nat → Nat} {E : Ex} {env : Nat → Mf} {d : Nat} (X : Cx p R s m args c cJ6_bitCount_0f7a4 1 RJ6 D C A ad SH E) (hR : d ≤ R.frames ∧ 100 * d ≤ R.locals) (hcs : cells ≤ R.cells ∧ slots ≤ R.slots) : ∀ q ∈ T_J6_bitCount_0f7a4 E env, SS p l e R s m args below meth c cells slots Q D C A ad SH 1 cJ6_bitCount_0f7a4 (some .int) q.1 q.2 := List.forall_mem_append.mpr ⟨ts_J6_bitCount_0f7a4_0 X hR hcs , ts_J6_bitCount_0f7a4_1 X hR hcs ⟩
def T_J7_fill_53178 (E : Ex) (env : Nat → Mf) : List (Nat × Stq) := [(0, o_ic 1 (0)),
  (1, o_is 2 2),
  (2, o_al 3 0),
  (3, o_len SH E 4),
  (4, o_is 5 3),
  (5, o_il 6 2),
  (6, o_il 7 3),
  (7, o_ge 20 10),
  (10, o_al 11 0),
  (11, o_il 12 2),
  (12, o_il 13 1),
  (13, o_is_ SH 14),
  (14, o_inc 17 2 (1)),
  (17, o_goto 5),
  (20, o_retV)]
set_option maxRecDepth 100000 in
set_option maxHeartbeats 4000000 in
theorem ts_J7_fill_53178 {p : Program} {l : Launch} {e : Env} {R : Room} {s : State} {m : MethodId} {args : Array Value} {below : List Frame} {meth : Method} {c : Code} {cells slots : Nat} {Q : State → Prop} {D : va_G} {C : CI3} {A : Nat → Prop} {ad : Nat → Nat} {E : Ex} {env : Nat → Mf} {d : Nat} (X : Cx p R s m args c cJ7_fill_53178 4 RJ7 D C A ad SH E) (hR : d ≤ R.frames ∧ 100 * d ≤ R.locals) (hcs : cells ≤ R.cells ∧ slots ≤ R.slots) : ∀ q ∈ T_J7_fill_53178 E env, SS p l e R s m args below meth c cells slots Q D C A ad SH 4 cJ7_fill_53178 (none) q.1 q.2 := by
  unfold T_J7_fill_53178
  refine List.forall_mem_cons.mpr ⟨s_iconst (pc := 0) X (n := 0) (by decide +kernel) (by decide), ?_⟩
  refine List.forall_mem_cons.mpr ⟨s_istore_n (pc := 1) X (i := 2) (by decide +kernel) rfl (by decide), ?_⟩
  refine List.forall_mem_cons.mpr ⟨s_aload_n (pc := 2) X (i := 0) (by decide +kernel) rfl, ?_⟩
  refine List.forall_mem_cons.mpr ⟨s_alen (pc := 3) X (by decide +kernel), ?_⟩
  refine List.forall_mem_cons.mpr ⟨s_istore_n (pc := 4) X (i := 3) (by decide +kernel) rfl (by decide), ?_⟩
  refine List.forall_mem_cons.mpr ⟨s_iload_n (pc := 5) X (i := 2) (by decide +kernel) rfl, ?_⟩
  refine List.forall_mem_cons.mpr ⟨s_iload_n (pc := 6) X (i := 3) (by decide +kernel) rfl, ?_⟩
  refine List.forall_mem_cons.mpr ⟨s_ge (pc := 7) X (off := 13) (by decide +kernel) (by decide), ?_⟩
  refine List.forall_mem_cons.mpr ⟨s_aload_n (pc := 10) X (i := 0) (by decide +kernel) rfl, ?_⟩
  refine List.forall_mem_cons.mpr ⟨s_iload_n (pc := 11) X (i := 2) (by decide +kernel) rfl, ?_⟩
  refine List.forall_mem_cons.mpr ⟨s_iload_n (pc := 12) X (i := 1) (by decide +kernel) rfl, ?_⟩
  refine List.forall_mem_cons.mpr ⟨s_iast (pc := 13) X (by decide +kernel), ?_⟩
  refine List.forall_mem_cons.mpr ⟨s_iinc (pc := 14) X (n := 1) (by decide +kernel) (by decide) (by decide), ?_⟩
  refine List.forall_mem_cons.mpr ⟨s_goto (pc := 17) X (off := -12) (by decide +kernel) (by decide), ?_⟩
  refine List.forall_mem_cons.mpr ⟨s_retV (pc := 20) (by decide +kernel), ?_⟩
  exact fun _ h => absurd h List.not_mem_nil
