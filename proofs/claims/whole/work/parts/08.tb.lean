/-! TABLES OF STEPS -/
def T_X4_table (E : Ex) (env : Nat → Mf) : List (Nat × Stq) := [(0, o_il 1 1),
  (1, o_ic 2 (1)),
  (2, o_lt 10 5),
  (5, o_il 6 1),
  (6, o_ic 7 (4)),
  (7, o_le 12 10),
  (10, o_ic 11 (0)),
  (11, o_retZ),
  (12, o_al 13 0),
  (13, o_callV SH env 16 53 0 4),
  (16, o_al 17 0),
  (17, o_gR SH 20 4 0),
  (20, o_il 21 1),
  (21, o_callV SH env 24 9 1 2),
  (24, o_ic 25 (1)),
  (25, o_retZ)]
set_option maxRecDepth 100000 in
set_option maxHeartbeats 4000000 in
theorem ts_X4_table {p : Program} {l : Launch} {e : Env} {R : Room} {s : State} {m : MethodId} {args : Array Value} {below : List Frame} {meth : Method} {c : Code} {cells slots : Nat} {Q : State → Prop} {D : va_G} {C : CI3} {A : Nat → Prop} {ad : Nat → Nat} {E : Ex} {env : Nat → Mf} {d : Nat} (X : Cx p R s m args c cX4_table 2 RX4 D C A ad SH E) (hR : d ≤ R.frames ∧ 100 * d ≤ R.locals) (hcs : cells ≤ R.cells ∧ slots ≤ R.slots) {d_X4_remember : Nat} (h_X4_remember : CM l SH E yX4_remember cX4_remember 1 (none) d_X4_remember (env 53)) (hd_X4_remember : d_X4_remember + 1 ≤ d) {d_X2_empty : Nat} (h_X2_empty : CM l SH E yX2_empty cX2_empty 2 (none) d_X2_empty (env 9)) (hd_X2_empty : d_X2_empty + 1 ≤ d) : ∀ q ∈ T_X4_table E env, SS p l e R s m args below meth c cells slots Q D C A ad SH 2 cX4_table (some .boolean) q.1 q.2 := by
  unfold T_X4_table
  refine List.forall_mem_cons.mpr ⟨s_iload_n (pc := 0) X (i := 1) (by decide +kernel) rfl, ?_⟩
  refine List.forall_mem_cons.mpr ⟨s_iconst (pc := 1) X (n := 1) (by decide +kernel) (by decide), ?_⟩
  refine List.forall_mem_cons.mpr ⟨s_lt (pc := 2) X (off := 8) (by decide +kernel) (by decide), ?_⟩
  refine List.forall_mem_cons.mpr ⟨s_iload_n (pc := 5) X (i := 1) (by decide +kernel) rfl, ?_⟩
  refine List.forall_mem_cons.mpr ⟨s_iconst (pc := 6) X (n := 4) (by decide +kernel) (by decide), ?_⟩
  refine List.forall_mem_cons.mpr ⟨s_le (pc := 7) X (off := 5) (by decide +kernel) (by decide), ?_⟩
  refine List.forall_mem_cons.mpr ⟨s_iconst (pc := 10) X (n := 0) (by decide +kernel) (by decide), ?_⟩
  refine List.forall_mem_cons.mpr ⟨s_retZ (pc := 11) (by decide +kernel), ?_⟩
  refine List.forall_mem_cons.mpr ⟨s_aload_n (pc := 12) X (i := 0) (by decide +kernel) rfl, ?_⟩
  refine List.forall_mem_cons.mpr ⟨s_callV (pc := 13) X (idx := 44) (by decide +kernel) h_X4_remember rfl lk_RX4_44 ls_X4_remember lz_X4_remember li_RX4 lc_X4_remember hv_X4_remember ⟨Nat.le_trans hd_X4_remember hR.1, Nat.le_trans (by have := hd_X4_remember; omega) hR.2⟩ hcs, ?_⟩
  refine List.forall_mem_cons.mpr ⟨s_aload_n (pc := 16) X (i := 0) (by decide +kernel) rfl, ?_⟩
  refine List.forall_mem_cons.mpr ⟨s_getR (pc := 17) X (idx := 10) (by decide +kernel) inTX4 rfl (by decide) lk_RX4_10 rfl, ?_⟩
  refine List.forall_mem_cons.mpr ⟨s_iload_n (pc := 20) X (i := 1) (by decide +kernel) rfl, ?_⟩
  refine List.forall_mem_cons.mpr ⟨s_callV (pc := 21) X (idx := 47) (by decide +kernel) h_X2_empty rfl lk_RX4_47 ls_X2_empty lz_X2_empty li_RX2 lc_X2_empty hv_X2_empty ⟨Nat.le_trans hd_X2_empty hR.1, Nat.le_trans (by have := hd_X2_empty; omega) hR.2⟩ hcs, ?_⟩
  refine List.forall_mem_cons.mpr ⟨s_iconst (pc := 24) X (n := 1) (by decide +kernel) (by decide), ?_⟩
  refine List.forall_mem_cons.mpr ⟨s_retZ (pc := 25) (by decide +kernel), ?_⟩
  exact fun _ h => absurd h List.not_mem_nil
def T_X4_put_0 (E : Ex) (env : Nat → Mf) : List (Nat × Stq) := [(0, o_il 1 1),
  (1, o_call env 4 56 1),
  (4, o_eq0 25 7),
  (7, o_il 8 2),
  (8, o_lt0 25 11),
  (11, o_il 12 2),
  (12, o_ic 13 (4)),
  (13, o_gt 25 16),
  (16, o_il 17 3),
  (17, o_lt0 25 20),
  (20, o_il 21 3),
  (21, o_ic 22 (4)),
  (22, o_le 27 25),
  (25, o_ic 26 (0)),
  (26, o_retZ),
  (27, o_il 28 3),
  (28, o_le0 40 31),
  (31, o_il 32 2),
  (32, o_il 34 4),
  (34, o_call env 37 57 2),
  (37, o_eq0 82 40),
  (40, o_il 41 3),
  (41, o_ic 42 (1)),
  (42, o_le 54 45),
  (45, o_il 46 2),
  (46, o_il 48 5),
  (48, o_call env 51 57 2),
  (51, o_eq0 82 54),
  (54, o_il 55 3),
  (55, o_ic 56 (2)),
  (56, o_le 68 59),
  (59, o_il 60 2),
  (60, o_il 62 6),
  (62, o_call env 65 57 2),
  (65, o_eq0 82 68),
  (68, o_il 69 3),
  (69, o_ic 70 (3)),
  (70, o_le 84 73),
  (73, o_il 74 2),
  (74, o_il 76 7)]
set_option maxRecDepth 100000 in
set_option maxHeartbeats 4000000 in
theorem ts_X4_put_0 {p : Program} {l : Launch} {e : Env} {R : Room} {s : State} {m : MethodId} {args : Array Value} {below : List Frame} {meth : Method} {c : Code} {cells slots : Nat} {Q : State → Prop} {D : va_G} {C : CI3} {A : Nat → Prop} {ad : Nat → Nat} {E : Ex} {env : Nat → Mf} {d : Nat} (X : Cx p R s m args c cX4_put 8 RX4 D C A ad SH E) (hR : d ≤ R.frames ∧ 100 * d ≤ R.locals) (hcs : cells ≤ R.cells ∧ slots ≤ R.slots) {d_X4_isSlot : Nat} (h_X4_isSlot : CM l SH E yX4_isSlot cX4_isSlot 1 (some .boolean) d_X4_isSlot (env 56)) (hd_X4_isSlot : d_X4_isSlot + 1 ≤ d) {d_X4_fits : Nat} (h_X4_fits : CM l SH E yX4_fits cX4_fits 2 (some .boolean) d_X4_fits (env 57)) (hd_X4_fits : d_X4_fits + 1 ≤ d) {d_X4_remember : Nat} (h_X4_remember : CM l SH E yX4_remember cX4_remember 1 (none) d_X4_remember (env 53)) (hd_X4_remember : d_X4_remember + 1 ≤ d) {d_X2_seat : Nat} (h_X2_seat : CM l SH E yX2_seat cX2_seat 4 (none) d_X2_seat (env 13)) (hd_X2_seat : d_X2_seat + 1 ≤ d) {d_X2_write : Nat} (h_X2_write : CM l SH E yX2_write cX2_write 4 (none) d_X2_write (env 14)) (hd_X2_write : d_X2_write + 1 ≤ d) : ∀ q ∈ T_X4_put_0 E env, SS p l e R s m args below meth c cells slots Q D C A ad SH 8 cX4_put (some .boolean) q.1 q.2 := by
  unfold T_X4_put_0
  refine List.forall_mem_cons.mpr ⟨s_iload_n (pc := 0) X (i := 1) (by decide +kernel) rfl, ?_⟩
  refine List.forall_mem_cons.mpr ⟨s_callS (pc := 1) X (idx := 51) (by decide +kernel) h_X4_isSlot lk_RX4_51 ls_X4_isSlot li_RX4 lc_X4_isSlot hy_X4_isSlot ⟨Nat.le_trans hd_X4_isSlot hR.1, Nat.le_trans (by have := hd_X4_isSlot; omega) hR.2⟩ hcs, ?_⟩
  refine List.forall_mem_cons.mpr ⟨s_eq0 (pc := 4) X (off := 21) (by decide +kernel) (by decide), ?_⟩
  refine List.forall_mem_cons.mpr ⟨s_iload_n (pc := 7) X (i := 2) (by decide +kernel) rfl, ?_⟩
  refine List.forall_mem_cons.mpr ⟨s_lt0 (pc := 8) X (off := 17) (by decide +kernel) (by decide), ?_⟩
  refine List.forall_mem_cons.mpr ⟨s_iload_n (pc := 11) X (i := 2) (by decide +kernel) rfl, ?_⟩
  refine List.forall_mem_cons.mpr ⟨s_iconst (pc := 12) X (n := 4) (by decide +kernel) (by decide), ?_⟩
  refine List.forall_mem_cons.mpr ⟨s_gt (pc := 13) X (off := 12) (by decide +kernel) (by decide), ?_⟩
  refine List.forall_mem_cons.mpr ⟨s_iload_n (pc := 16) X (i := 3) (by decide +kernel) rfl, ?_⟩
  refine List.forall_mem_cons.mpr ⟨s_lt0 (pc := 17) X (off := 8) (by decide +kernel) (by decide), ?_⟩
  refine List.forall_mem_cons.mpr ⟨s_iload_n (pc := 20) X (i := 3) (by decide +kernel) rfl, ?_⟩
  refine List.forall_mem_cons.mpr ⟨s_iconst (pc := 21) X (n := 4) (by decide +kernel) (by decide), ?_⟩
  refine List.forall_mem_cons.mpr ⟨s_le (pc := 22) X (off := 5) (by decide +kernel) (by decide), ?_⟩
  refine List.forall_mem_cons.mpr ⟨s_iconst (pc := 25) X (n := 0) (by decide +kernel) (by decide), ?_⟩
  refine List.forall_mem_cons.mpr ⟨s_retZ (pc := 26) (by decide +kernel), ?_⟩
  refine List.forall_mem_cons.mpr ⟨s_iload_n (pc := 27) X (i := 3) (by decide +kernel) rfl, ?_⟩
  refine List.forall_mem_cons.mpr ⟨s_le0 (pc := 28) X (off := 12) (by decide +kernel) (by decide), ?_⟩
  refine List.forall_mem_cons.mpr ⟨s_iload_n (pc := 31) X (i := 2) (by decide +kernel) rfl, ?_⟩
  refine List.forall_mem_cons.mpr ⟨s_iload (pc := 32) X (by decide +kernel), ?_⟩
  refine List.forall_mem_cons.mpr ⟨s_callS (pc := 34) X (idx := 55) (by decide +kernel) h_X4_fits lk_RX4_55 ls_X4_fits li_RX4 lc_X4_fits hy_X4_fits ⟨Nat.le_trans hd_X4_fits hR.1, Nat.le_trans (by have := hd_X4_fits; omega) hR.2⟩ hcs, ?_⟩
  refine List.forall_mem_cons.mpr ⟨s_eq0 (pc := 37) X (off := 45) (by decide +kernel) (by decide), ?_⟩
  refine List.forall_mem_cons.mpr ⟨s_iload_n (pc := 40) X (i := 3) (by decide +kernel) rfl, ?_⟩
  refine List.forall_mem_cons.mpr ⟨s_iconst (pc := 41) X (n := 1) (by decide +kernel) (by decide), ?_⟩
  refine List.forall_mem_cons.mpr ⟨s_le (pc := 42) X (off := 12) (by decide +kernel) (by decide), ?_⟩
  refine List.forall_mem_cons.mpr ⟨s_iload_n (pc := 45) X (i := 2) (by decide +kernel) rfl, ?_⟩
  refine List.forall_mem_cons.mpr ⟨s_iload (pc := 46) X (by decide +kernel), ?_⟩
  refine List.forall_mem_cons.mpr ⟨s_callS (pc := 48) X (idx := 55) (by decide +kernel) h_X4_fits lk_RX4_55 ls_X4_fits li_RX4 lc_X4_fits hy_X4_fits ⟨Nat.le_trans hd_X4_fits hR.1, Nat.le_trans (by have := hd_X4_fits; omega) hR.2⟩ hcs, ?_⟩
  refine List.forall_mem_cons.mpr ⟨s_eq0 (pc := 51) X (off := 31) (by decide +kernel) (by decide), ?_⟩
  refine List.forall_mem_cons.mpr ⟨s_iload_n (pc := 54) X (i := 3) (by decide +kernel) rfl, ?_⟩
  refine List.forall_mem_cons.mpr ⟨s_iconst (pc := 55) X (n := 2) (by decide +kernel) (by decide), ?_⟩
  refine List.forall_mem_cons.mpr ⟨s_le (pc := 56) X (off := 12) (by decide +kernel) (by decide), ?_⟩
  refine List.forall_mem_cons.mpr ⟨s_iload_n (pc := 59) X (i := 2) (by decide +kernel) rfl, ?_⟩
  refine List.forall_mem_cons.mpr ⟨s_iload (pc := 60) X (by decide +kernel), ?_⟩
  refine List.forall_mem_cons.mpr ⟨s_callS (pc := 62) X (idx := 55) (by decide +kernel) h_X4_fits lk_RX4_55 ls_X4_fits li_RX4 lc_X4_fits hy_X4_fits ⟨Nat.le_trans hd_X4_fits hR.1, Nat.le_trans (by have := hd_X4_fits; omega) hR.2⟩ hcs, ?_⟩
  refine List.forall_mem_cons.mpr ⟨s_eq0 (pc := 65) X (off := 17) (by decide +kernel) (by decide), ?_⟩
  refine List.forall_mem_cons.mpr ⟨s_iload_n (pc := 68) X (i := 3) (by decide +kernel) rfl, ?_⟩
  refine List.forall_mem_cons.mpr ⟨s_iconst (pc := 69) X (n := 3) (by decide +kernel) (by decide), ?_⟩
  refine List.forall_mem_cons.mpr ⟨s_le (pc := 70) X (off := 14) (by decide +kernel) (by decide), ?_⟩
  refine List.forall_mem_cons.mpr ⟨s_iload_n (pc := 73) X (i := 2) (by decide +kernel) rfl, ?_⟩
  refine List.forall_mem_cons.mpr ⟨s_iload (pc := 74) X (by decide +kernel), ?_⟩
  exact fun _ h => absurd h List.not_mem_nil
def T_X4_put_1 (E : Ex) (env : Nat → Mf) : List (Nat × Stq) := [(76, o_call env 79 57 2),
  (79, o_ne0 84 82),
  (82, o_ic 83 (0)),
  (83, o_retZ),
  (84, o_al 85 0),
  (85, o_callV SH env 88 53 0 4),
  (88, o_al 89 0),
  (89, o_gR SH 92 4 0),
  (92, o_il 93 1),
  (93, o_il 94 2),
  (94, o_il 95 3),
  (95, o_callV SH env 98 13 3 2),
  (98, o_al 99 0),
  (99, o_gR SH 102 4 0),
  (102, o_il 103 1),
  (103, o_ic 104 (0)),
  (104, o_il 105 3),
  (105, o_le0 113 108),
  (108, o_il 110 4),
  (110, o_goto 115),
  (113, o_ic 115 (100)),
  (115, o_callV SH env 118 14 3 2),
  (118, o_al 119 0),
  (119, o_gR SH 122 4 0),
  (122, o_il 123 1),
  (123, o_ic 124 (1)),
  (124, o_il 125 3),
  (125, o_ic 126 (1)),
  (126, o_le 134 129),
  (129, o_il 131 5),
  (131, o_goto 136),
  (134, o_ic 136 (100)),
  (136, o_callV SH env 139 14 3 2),
  (139, o_al 140 0),
  (140, o_gR SH 143 4 0),
  (143, o_il 144 1),
  (144, o_ic 145 (2)),
  (145, o_il 146 3),
  (146, o_ic 147 (2)),
  (147, o_le 155 150)]
set_option maxRecDepth 100000 in
set_option maxHeartbeats 4000000 in
theorem ts_X4_put_1 {p : Program} {l : Launch} {e : Env} {R : Room} {s : State} {m : MethodId} {args : Array Value} {below : List Frame} {meth : Method} {c : Code} {cells slots : Nat} {Q : State → Prop} {D : va_G} {C : CI3} {A : Nat → Prop} {ad : Nat → Nat} {E : Ex} {env : Nat → Mf} {d : Nat} (X : Cx p R s m args c cX4_put 8 RX4 D C A ad SH E) (hR : d ≤ R.frames ∧ 100 * d ≤ R.locals) (hcs : cells ≤ R.cells ∧ slots ≤ R.slots) {d_X4_isSlot : Nat} (h_X4_isSlot : CM l SH E yX4_isSlot cX4_isSlot 1 (some .boolean) d_X4_isSlot (env 56)) (hd_X4_isSlot : d_X4_isSlot + 1 ≤ d) {d_X4_fits : Nat} (h_X4_fits : CM l SH E yX4_fits cX4_fits 2 (some .boolean) d_X4_fits (env 57)) (hd_X4_fits : d_X4_fits + 1 ≤ d) {d_X4_remember : Nat} (h_X4_remember : CM l SH E yX4_remember cX4_remember 1 (none) d_X4_remember (env 53)) (hd_X4_remember : d_X4_remember + 1 ≤ d) {d_X2_seat : Nat} (h_X2_seat : CM l SH E yX2_seat cX2_seat 4 (none) d_X2_seat (env 13)) (hd_X2_seat : d_X2_seat + 1 ≤ d) {d_X2_write : Nat} (h_X2_write : CM l SH E yX2_write cX2_write 4 (none) d_X2_write (env 14)) (hd_X2_write : d_X2_write + 1 ≤ d) : ∀ q ∈ T_X4_put_1 E env, SS p l e R s m args below meth c cells slots Q D C A ad SH 8 cX4_put (some .boolean) q.1 q.2 := by
  unfold T_X4_put_1
  refine List.forall_mem_cons.mpr ⟨s_callS (pc := 76) X (idx := 55) (by decide +kernel) h_X4_fits lk_RX4_55 ls_X4_fits li_RX4 lc_X4_fits hy_X4_fits ⟨Nat.le_trans hd_X4_fits hR.1, Nat.le_trans (by have := hd_X4_fits; omega) hR.2⟩ hcs, ?_⟩
  refine List.forall_mem_cons.mpr ⟨s_ne0 (pc := 79) X (off := 5) (by decide +kernel) (by decide), ?_⟩
  refine List.forall_mem_cons.mpr ⟨s_iconst (pc := 82) X (n := 0) (by decide +kernel) (by decide), ?_⟩
  refine List.forall_mem_cons.mpr ⟨s_retZ (pc := 83) (by decide +kernel), ?_⟩
  refine List.forall_mem_cons.mpr ⟨s_aload_n (pc := 84) X (i := 0) (by decide +kernel) rfl, ?_⟩
  refine List.forall_mem_cons.mpr ⟨s_callV (pc := 85) X (idx := 44) (by decide +kernel) h_X4_remember rfl lk_RX4_44 ls_X4_remember lz_X4_remember li_RX4 lc_X4_remember hv_X4_remember ⟨Nat.le_trans hd_X4_remember hR.1, Nat.le_trans (by have := hd_X4_remember; omega) hR.2⟩ hcs, ?_⟩
  refine List.forall_mem_cons.mpr ⟨s_aload_n (pc := 88) X (i := 0) (by decide +kernel) rfl, ?_⟩
  refine List.forall_mem_cons.mpr ⟨s_getR (pc := 89) X (idx := 10) (by decide +kernel) inTX4 rfl (by decide) lk_RX4_10 rfl, ?_⟩
  refine List.forall_mem_cons.mpr ⟨s_iload_n (pc := 92) X (i := 1) (by decide +kernel) rfl, ?_⟩
  refine List.forall_mem_cons.mpr ⟨s_iload_n (pc := 93) X (i := 2) (by decide +kernel) rfl, ?_⟩
  refine List.forall_mem_cons.mpr ⟨s_iload_n (pc := 94) X (i := 3) (by decide +kernel) rfl, ?_⟩
  refine List.forall_mem_cons.mpr ⟨s_callV (pc := 95) X (idx := 59) (by decide +kernel) h_X2_seat rfl lk_RX4_59 ls_X2_seat lz_X2_seat li_RX2 lc_X2_seat hv_X2_seat ⟨Nat.le_trans hd_X2_seat hR.1, Nat.le_trans (by have := hd_X2_seat; omega) hR.2⟩ hcs, ?_⟩
  refine List.forall_mem_cons.mpr ⟨s_aload_n (pc := 98) X (i := 0) (by decide +kernel) rfl, ?_⟩
  refine List.forall_mem_cons.mpr ⟨s_getR (pc := 99) X (idx := 10) (by decide +kernel) inTX4 rfl (by decide) lk_RX4_10 rfl, ?_⟩
  refine List.forall_mem_cons.mpr ⟨s_iload_n (pc := 102) X (i := 1) (by decide +kernel) rfl, ?_⟩
  refine List.forall_mem_cons.mpr ⟨s_iconst (pc := 103) X (n := 0) (by decide +kernel) (by decide), ?_⟩
  refine List.forall_mem_cons.mpr ⟨s_iload_n (pc := 104) X (i := 3) (by decide +kernel) rfl, ?_⟩
  refine List.forall_mem_cons.mpr ⟨s_le0 (pc := 105) X (off := 8) (by decide +kernel) (by decide), ?_⟩
  refine List.forall_mem_cons.mpr ⟨s_iload (pc := 108) X (by decide +kernel), ?_⟩
  refine List.forall_mem_cons.mpr ⟨s_goto (pc := 110) X (off := 5) (by decide +kernel) (by decide), ?_⟩
  refine List.forall_mem_cons.mpr ⟨s_bipush (pc := 113) X (n := 100) (by decide +kernel) (by decide), ?_⟩
  refine List.forall_mem_cons.mpr ⟨s_callV (pc := 115) X (idx := 63) (by decide +kernel) h_X2_write rfl lk_RX4_63 ls_X2_write lz_X2_write li_RX2 lc_X2_write hv_X2_write ⟨Nat.le_trans hd_X2_write hR.1, Nat.le_trans (by have := hd_X2_write; omega) hR.2⟩ hcs, ?_⟩
  refine List.forall_mem_cons.mpr ⟨s_aload_n (pc := 118) X (i := 0) (by decide +kernel) rfl, ?_⟩
  refine List.forall_mem_cons.mpr ⟨s_getR (pc := 119) X (idx := 10) (by decide +kernel) inTX4 rfl (by decide) lk_RX4_10 rfl, ?_⟩
  refine List.forall_mem_cons.mpr ⟨s_iload_n (pc := 122) X (i := 1) (by decide +kernel) rfl, ?_⟩
  refine List.forall_mem_cons.mpr ⟨s_iconst (pc := 123) X (n := 1) (by decide +kernel) (by decide), ?_⟩
  refine List.forall_mem_cons.mpr ⟨s_iload_n (pc := 124) X (i := 3) (by decide +kernel) rfl, ?_⟩
  refine List.forall_mem_cons.mpr ⟨s_iconst (pc := 125) X (n := 1) (by decide +kernel) (by decide), ?_⟩
  refine List.forall_mem_cons.mpr ⟨s_le (pc := 126) X (off := 8) (by decide +kernel) (by decide), ?_⟩
  refine List.forall_mem_cons.mpr ⟨s_iload (pc := 129) X (by decide +kernel), ?_⟩
  refine List.forall_mem_cons.mpr ⟨s_goto (pc := 131) X (off := 5) (by decide +kernel) (by decide), ?_⟩
  refine List.forall_mem_cons.mpr ⟨s_bipush (pc := 134) X (n := 100) (by decide +kernel) (by decide), ?_⟩
  refine List.forall_mem_cons.mpr ⟨s_callV (pc := 136) X (idx := 63) (by decide +kernel) h_X2_write rfl lk_RX4_63 ls_X2_write lz_X2_write li_RX2 lc_X2_write hv_X2_write ⟨Nat.le_trans hd_X2_write hR.1, Nat.le_trans (by have := hd_X2_write; omega) hR.2⟩ hcs, ?_⟩
  refine List.forall_mem_cons.mpr ⟨s_aload_n (pc := 139) X (i := 0) (by decide +kernel) rfl, ?_⟩
  refine List.forall_mem_cons.mpr ⟨s_getR (pc := 140) X (idx := 10) (by decide +kernel) inTX4 rfl (by decide) lk_RX4_10 rfl, ?_⟩
  refine List.forall_mem_cons.mpr ⟨s_iload_n (pc := 143) X (i := 1) (by decide +kernel) rfl, ?_⟩
  refine List.forall_mem_cons.mpr ⟨s_iconst (pc := 144) X (n := 2) (by decide +kernel) (by decide), ?_⟩
  refine List.forall_mem_cons.mpr ⟨s_iload_n (pc := 145) X (i := 3) (by decide +kernel) rfl, ?_⟩
  refine List.forall_mem_cons.mpr ⟨s_iconst (pc := 146) X (n := 2) (by decide +kernel) (by decide), ?_⟩
  refine List.forall_mem_cons.mpr ⟨s_le (pc := 147) X (off := 8) (by decide +kernel) (by decide), ?_⟩
  exact fun _ h => absurd h List.not_mem_nil
def T_X4_put_2 (E : Ex) (env : Nat → Mf) : List (Nat × Stq) := [(150, o_il 152 6),
  (152, o_goto 157),
  (155, o_ic 157 (100)),
  (157, o_callV SH env 160 14 3 2),
  (160, o_al 161 0),
  (161, o_gR SH 164 4 0),
  (164, o_il 165 1),
  (165, o_ic 166 (3)),
  (166, o_il 167 3),
  (167, o_ic 168 (3)),
  (168, o_le 176 171),
  (171, o_il 173 7),
  (173, o_goto 178),
  (176, o_ic 178 (100)),
  (178, o_callV SH env 181 14 3 2),
  (181, o_ic 182 (1)),
  (182, o_retZ)]
set_option maxRecDepth 100000 in
set_option maxHeartbeats 4000000 in
theorem ts_X4_put_2 {p : Program} {l : Launch} {e : Env} {R : Room} {s : State} {m : MethodId} {args : Array Value} {below : List Frame} {meth : Method} {c : Code} {cells slots : Nat} {Q : State → Prop} {D : va_G} {C : CI3} {A : Nat → Prop} {ad : Nat → Nat} {E : Ex} {env : Nat → Mf} {d : Nat} (X : Cx p R s m args c cX4_put 8 RX4 D C A ad SH E) (hR : d ≤ R.frames ∧ 100 * d ≤ R.locals) (hcs : cells ≤ R.cells ∧ slots ≤ R.slots) {d_X4_isSlot : Nat} (h_X4_isSlot : CM l SH E yX4_isSlot cX4_isSlot 1 (some .boolean) d_X4_isSlot (env 56)) (hd_X4_isSlot : d_X4_isSlot + 1 ≤ d) {d_X4_fits : Nat} (h_X4_fits : CM l SH E yX4_fits cX4_fits 2 (some .boolean) d_X4_fits (env 57)) (hd_X4_fits : d_X4_fits + 1 ≤ d) {d_X4_remember : Nat} (h_X4_remember : CM l SH E yX4_remember cX4_remember 1 (none) d_X4_remember (env 53)) (hd_X4_remember : d_X4_remember + 1 ≤ d) {d_X2_seat : Nat} (h_X2_seat : CM l SH E yX2_seat cX2_seat 4 (none) d_X2_seat (env 13)) (hd_X2_seat : d_X2_seat + 1 ≤ d) {d_X2_write : Nat} (h_X2_write : CM l SH E yX2_write cX2_write 4 (none) d_X2_write (env 14)) (hd_X2_write : d_X2_write + 1 ≤ d) : ∀ q ∈ T_X4_put_2 E env, SS p l e R s m args below meth c cells slots Q D C A ad SH 8 cX4_put (some .boolean) q.1 q.2 := by
  unfold T_X4_put_2
  refine List.forall_mem_cons.mpr ⟨s_iload (pc := 150) X (by decide +kernel), ?_⟩
  refine List.forall_mem_cons.mpr ⟨s_goto (pc := 152) X (off := 5) (by decide +kernel) (by decide), ?_⟩
  refine List.forall_mem_cons.mpr ⟨s_bipush (pc := 155) X (n := 100) (by decide +kernel) (by decide), ?_⟩
  refine List.forall_mem_cons.mpr ⟨s_callV (pc := 157) X (idx := 63) (by decide +kernel) h_X2_write rfl lk_RX4_63 ls_X2_write lz_X2_write li_RX2 lc_X2_write hv_X2_write ⟨Nat.le_trans hd_X2_write hR.1, Nat.le_trans (by have := hd_X2_write; omega) hR.2⟩ hcs, ?_⟩
  refine List.forall_mem_cons.mpr ⟨s_aload_n (pc := 160) X (i := 0) (by decide +kernel) rfl, ?_⟩
  refine List.forall_mem_cons.mpr ⟨s_getR (pc := 161) X (idx := 10) (by decide +kernel) inTX4 rfl (by decide) lk_RX4_10 rfl, ?_⟩
  refine List.forall_mem_cons.mpr ⟨s_iload_n (pc := 164) X (i := 1) (by decide +kernel) rfl, ?_⟩
  refine List.forall_mem_cons.mpr ⟨s_iconst (pc := 165) X (n := 3) (by decide +kernel) (by decide), ?_⟩
  refine List.forall_mem_cons.mpr ⟨s_iload_n (pc := 166) X (i := 3) (by decide +kernel) rfl, ?_⟩
  refine List.forall_mem_cons.mpr ⟨s_iconst (pc := 167) X (n := 3) (by decide +kernel) (by decide), ?_⟩
  refine List.forall_mem_cons.mpr ⟨s_le (pc := 168) X (off := 8) (by decide +kernel) (by decide), ?_⟩
  refine List.forall_mem_cons.mpr ⟨s_iload (pc := 171) X (by decide +kernel), ?_⟩
  refine List.forall_mem_cons.mpr ⟨s_goto (pc := 173) X (off := 5) (by decide +kernel) (by decide), ?_⟩
  refine List.forall_mem_cons.mpr ⟨s_bipush (pc := 176) X (n := 100) (by decide +kernel) (by decide), ?_⟩
  refine List.forall_mem_cons.mpr ⟨s_callV (pc := 178) X (idx := 63) (by decide +kernel) h_X2_write rfl lk_RX4_63 ls_X2_write lz_X2_write li_RX2 lc_X2_write hv_X2_write ⟨Nat.le_trans hd_X2_write hR.1, Nat.le_trans (by have := hd_X2_write; omega) hR.2⟩ hcs, ?_⟩
  refine List.forall_mem_cons.mpr ⟨s_iconst (pc := 181) X (n := 1) (by decide +kernel) (by decide), ?_⟩
  refine List.forall_mem_cons.mpr ⟨s_retZ (pc := 182) (by decide +kernel), ?_⟩
  exact fun _ h => absurd h List.not_mem_nil
def T_X4_put (E : Ex) (env : Nat → Mf) : List (Nat × Stq) := T_X4_put_0 E env ++ (T_X4_put_1 E env ++ (T_X4_put_2 E env))
theorem ts_X4_put {p : Program} {l : Launch} {e : Env} {R : Room} {s : State} {m : MethodId} {args : Array Value} {below : List Frame} {meth : Method} {c : Code} {cells slots : Nat} {Q : State → Prop} {D : va_G} {C : CI3} {A : Nat → Prop} {ad : Nat → Nat} {E : Ex} {env : Nat → Mf} {d : Nat} (X : Cx p R s m args c cX4_put 8 RX4 D C A ad SH E) (hR : d ≤ R.frames ∧ 100 * d ≤ R.locals) (hcs : cells ≤ R.cells ∧ slots ≤ R.slots) {d_X4_isSlot : Nat} (h_X4_isSlot : CM l SH E yX4_isSlot cX4_isSlot 1 (some .boolean) d_X4_isSlot (env 56)) (hd_X4_isSlot : d_X4_isSlot + 1 ≤ d) {d_X4_fits : Nat} (h_X4_fits : CM l SH E yX4_fits cX4_fits 2 (some .boolean) d_X4_fits (env 57)) (hd_X4_fits : d_X4_fits + 1 ≤ d) {d_X4_remember : Nat} (h_X4_remember : CM l SH E yX4_remember cX4_remember 1 (none) d_X4_remember (env 53)) (hd_X4_remember : d_X4_remember + 1 ≤ d) {d_X2_seat : Nat} (h_X2_seat : CM l SH E yX2_seat cX2_seat 4 (none) d_X2_seat (env 13)) (hd_X2_seat : d_X2_seat + 1 ≤ d) {d_X2_write : Nat} (h_X2_write : CM l SH E yX2_write cX2_write 4 (none) d_X2_write (env 14)) (hd_X2_write : d_X2_write + 1 ≤ d) : ∀ q ∈ T_X4_put E env, SS p l e R s m args below meth c cells slots Q D C A ad SH 8 cX4_put (some .boolean) q.1 q.2 := List.forall_mem_append.mpr ⟨ts_X4_put_0 X hR hcs h_X4_isSlot hd_X4_isSlot h_X4_fits hd_X4_fits h_X4_remember hd_X4_remember h_X2_seat hd_X2_seat h_X2_write hd_X2_write, List.forall_mem_append.mpr ⟨ts_X4_put_1 X hR hcs h_X4_isSlot hd_X4_isSlot h_X4_fits hd_X4_fits h_X4_remember hd_X4_remember h_X2_seat hd_X2_seat h_X2_write hd_X2_write, ts_X4_put_2 X hR hcs h_X4_isSlot hd_X4_isSlot h_X4_fits hd_X4_fits h_X4_remember hd_X4_remember h_X2_seat hd_X2_seat h_X2_write hd_X2_write⟩⟩
def T_X4_change (E : Ex) (env : Nat → Mf) : List (Nat × Stq) := [(0, o_al 1 0),
  (1, o_gR SH 4 4 0),
  (4, o_il 5 1),
  (5, o_callV SH env 8 11 1 2),
  (8, o_eq0 51 11),
  (11, o_al 12 0),
  (12, o_gR SH 15 4 0),
  (15, o_il 16 2),
  (16, o_callV SH env 19 12 1 2),
  (19, o_eq0 51 22),
  (22, o_il 23 2),
  (23, o_al 24 0),
  (24, o_gR SH 27 4 0),
  (27, o_gR SH 30 2 2),
  (30, o_il 31 1),
  (31, o_ia SH E 32),
  (32, o_ge 51 35),
  (35, o_al 36 0),
  (36, o_gR SH 39 4 0),
  (39, o_gR SH 42 2 1),
  (42, o_il 43 1),
  (43, o_ia SH E 44),
  (44, o_il 45 3),
  (45, o_call env 48 57 2),
  (48, o_ne0 53 51),
  (51, o_ic 52 (0)),
  (52, o_retZ),
  (53, o_al 54 0),
  (54, o_callV SH env 57 53 0 4),
  (57, o_al 58 0),
  (58, o_gR SH 61 4 0),
  (61, o_il 62 1),
  (62, o_il 63 2),
  (63, o_il 64 3),
  (64, o_callV SH env 67 14 3 2),
  (67, o_ic 68 (1)),
  (68, o_retZ)]
set_option maxRecDepth 100000 in
set_option maxHeartbeats 4000000 in
theorem ts_X4_change {p : Program} {l : Launch} {e : Env} {R : Room} {s : State} {m : MethodId} {args : Array Value} {below : List Frame} {meth : Method} {c : Code} {cells slots : Nat} {Q : State → Prop} {D : va_G} {C : CI3} {A : Nat → Prop} {ad : Nat → Nat} {E : Ex} {env : Nat → Mf} {d : Nat} (X : Cx p R s m args c cX4_change 4 RX4 D C A ad SH E) (hR : d ≤ R.frames ∧ 100 * d ≤ R.locals) (hcs : cells ≤ R.cells ∧ slots ≤ R.slots) {d_X2_hasRow : Nat} (h_X2_hasRow : CM l SH E yX2_hasRow cX2_hasRow 2 (some .boolean) d_X2_hasRow (env 11)) (hd_X2_hasRow : d_X2_hasRow + 1 ≤ d) {d_X2_hasColumn : Nat} (h_X2_hasColumn : CM l SH E yX2_hasColumn cX2_hasColumn 2 (some .boolean) d_X2_hasColumn (env 12)) (hd_X2_hasColumn : d_X2_hasColumn + 1 ≤ d) {d_X4_fits : Nat} (h_X4_fits : CM l SH E yX4_fits cX4_fits 2 (some .boolean) d_X4_fits (env 57)) (hd_X4_fits : d_X4_fits + 1 ≤ d) {d_X4_remember : Nat} (h_X4_remember : CM l SH E yX4_remember cX4_remember 1 (none) d_X4_remember (env 53)) (hd_X4_remember : d_X4_remember + 1 ≤ d) {d_X2_write : Nat} (h_X2_write : CM l SH E yX2_write cX2_write 4 (none) d_X2_write (env 14)) (hd_X2_write : d_X2_write + 1 ≤ d) : ∀ q ∈ T_X4_change E env, SS p l e R s m args below meth c cells slots Q D C A ad SH 4 cX4_change (some .boolean) q.1 q.2 := by
  unfold T_X4_change
  refine List.forall_mem_cons.mpr ⟨s_aload_n (pc := 0) X (i := 0) (by decide +kernel) rfl, ?_⟩
  refine List.forall_mem_cons.mpr ⟨s_getR (pc := 1) X (idx := 10) (by decide +kernel) inTX4 rfl (by decide) lk_RX4_10 rfl, ?_⟩
  refine List.forall_mem_cons.mpr ⟨s_iload_n (pc := 4) X (i := 1) (by decide +kernel) rfl, ?_⟩
  refine List.forall_mem_cons.mpr ⟨s_callV (pc := 5) X (idx := 66) (by decide +kernel) h_X2_hasRow rfl lk_RX4_66 ls_X2_hasRow lz_X2_hasRow li_RX2 lc_X2_hasRow hv_X2_hasRow ⟨Nat.le_trans hd_X2_hasRow hR.1, Nat.le_trans (by have := hd_X2_hasRow; omega) hR.2⟩ hcs, ?_⟩
  refine List.forall_mem_cons.mpr ⟨s_eq0 (pc := 8) X (off := 43) (by decide +kernel) (by decide), ?_⟩
  refine List.forall_mem_cons.mpr ⟨s_aload_n (pc := 11) X (i := 0) (by decide +kernel) rfl, ?_⟩
  refine List.forall_mem_cons.mpr ⟨s_getR (pc := 12) X (idx := 10) (by decide +kernel) inTX4 rfl (by decide) lk_RX4_10 rfl, ?_⟩
  refine List.forall_mem_cons.mpr ⟨s_iload_n (pc := 15) X (i := 2) (by decide +kernel) rfl, ?_⟩
  refine List.forall_mem_cons.mpr ⟨s_callV (pc := 16) X (idx := 69) (by decide +kernel) h_X2_hasColumn rfl lk_RX4_69 ls_X2_hasColumn lz_X2_hasColumn li_RX2 lc_X2_hasColumn hv_X2_hasColumn ⟨Nat.le_trans hd_X2_hasColumn hR.1, Nat.le_trans (by have := hd_X2_hasColumn; omega) hR.2⟩ hcs, ?_⟩
  refine List.forall_mem_cons.mpr ⟨s_eq0 (pc := 19) X (off := 32) (by decide +kernel) (by decide), ?_⟩
  refine List.forall_mem_cons.mpr ⟨s_iload_n (pc := 22) X (i := 2) (by decide +kernel) rfl, ?_⟩
  refine List.forall_mem_cons.mpr ⟨s_aload_n (pc := 23) X (i := 0) (by decide +kernel) rfl, ?_⟩
  refine List.forall_mem_cons.mpr ⟨s_getR (pc := 24) X (idx := 10) (by decide +kernel) inTX4 rfl (by decide) lk_RX4_10 rfl, ?_⟩
  refine List.forall_mem_cons.mpr ⟨s_getR (pc := 27) X (idx := 72) (by decide +kernel) inTX2 rfl (by decide) lk_RX4_72 rfl, ?_⟩
  refine List.forall_mem_cons.mpr ⟨s_iload_n (pc := 30) X (i := 1) (by decide +kernel) rfl, ?_⟩
  refine List.forall_mem_cons.mpr ⟨s_iald (pc := 31) X (by decide +kernel), ?_⟩
  refine List.forall_mem_cons.mpr ⟨s_ge (pc := 32) X (off := 19) (by decide +kernel) (by decide), ?_⟩
  refine List.forall_mem_cons.mpr ⟨s_aload_n (pc := 35) X (i := 0) (by decide +kernel) rfl, ?_⟩
  refine List.forall_mem_cons.mpr ⟨s_getR (pc := 36) X (idx := 10) (by decide +kernel) inTX4 rfl (by decide) lk_RX4_10 rfl, ?_⟩
  refine List.forall_mem_cons.mpr ⟨s_getR (pc := 39) X (idx := 76) (by decide +kernel) inTX2 rfl (by decide) lk_RX4_76 rfl, ?_⟩
  refine List.forall_mem_cons.mpr ⟨s_iload_n (pc := 42) X (i := 1) (by decide +kernel) rfl, ?_⟩
  refine List.forall_mem_cons.mpr ⟨s_iald (pc := 43) X (by decide +kernel), ?_⟩
  refine List.forall_mem_cons.mpr ⟨s_iload_n (pc := 44) X (i := 3) (by decide +kernel) rfl, ?_⟩
  refine List.forall_mem_cons.mpr ⟨s_callS (pc := 45) X (idx := 55) (by decide +kernel) h_X4_fits lk_RX4_55 ls_X4_fits li_RX4 lc_X4_fits hy_X4_fits ⟨Nat.le_trans hd_X4_fits hR.1, Nat.le_trans (by have := hd_X4_fits; omega) hR.2⟩ hcs, ?_⟩
  refine List.forall_mem_cons.mpr ⟨s_ne0 (pc := 48) X (off := 5) (by decide +kernel) (by decide), ?_⟩
  refine List.forall_mem_cons.mpr ⟨s_iconst (pc := 51) X (n := 0) (by decide +kernel) (by decide), ?_⟩
  refine List.forall_mem_cons.mpr ⟨s_retZ (pc := 52) (by decide +kernel), ?_⟩
  refine List.forall_mem_cons.mpr ⟨s_aload_n (pc := 53) X (i := 0) (by decide +kernel) rfl, ?_⟩
  refine List.forall_mem_cons.mpr ⟨s_callV (pc := 54) X (idx := 44) (by decide +kernel) h_X4_remember rfl lk_RX4_44 ls_X4_remember lz_X4_remember li_RX4 lc_X4_remember hv_X4_remember ⟨Nat.le_trans hd_X4_remember hR.1, Nat.le_trans (by have := hd_X4_remember; omega) hR.2⟩ hcs, ?_⟩
  refine List.forall_mem_cons.mpr ⟨s_aload_n (pc := 57) X (i := 0) (by decide +kernel) rfl, ?_⟩
  refine List.forall_mem_cons.mpr ⟨s_getR (pc := 58) X (idx := 10) (by decide +kernel) inTX4 rfl (by decide) lk_RX4_10 rfl, ?_⟩
  refine List.forall_mem_cons.mpr ⟨s_iload_n (pc := 61) X (i := 1) (by decide +kernel) rfl, ?_⟩
  refine List.forall_mem_cons.mpr ⟨s_iload_n (pc := 62) X (i := 2) (by decide +kernel) rfl, ?_⟩
  refine List.forall_mem_cons.mpr ⟨s_iload_n (pc := 63) X (i := 3) (by decide +kernel) rfl, ?_⟩
  refine List.forall_mem_cons.mpr ⟨s_callV (pc := 64) X (idx := 63) (by decide +kernel) h_X2_write rfl lk_RX4_63 ls_X2_write lz_X2_write li_RX2 lc_X2_write hv_X2_write ⟨Nat.le_trans hd_X2_write hR.1, Nat.le_trans (by have := hd_X2_write; omega) hR.2⟩ hcs, ?_⟩
  refine List.forall_mem_cons.mpr ⟨s_iconst (pc := 67) X (n := 1) (by decide +kernel) (by decide), ?_⟩
  refine List.forall_mem_cons.mpr ⟨s_retZ (pc := 68) (by decide +kernel), ?_⟩
  exact fun _ h => absurd h List.not_mem_nil
def T_X4_strike (E : Ex) (env : Nat → Mf) : List (Nat × Stq) := [(0, o_al 1 0),
  (1, o_gR SH 4 4 0),
  (4, o_il 5 1),
  (5, o_callV SH env 8 11 1 2),
  (8, o_ne0 13 11),
  (11, o_ic 12 (0)),
  (12, o_retZ),
  (13, o_al 14 0),
  (14, o_callV SH env 17 53 0 4),
  (17, o_al 18 0),
  (18, o_gR SH 21 4 0),
  (21, o_gR SH 24 2 1),
  (24, o_il 25 1),
  (25, o_ic 26 (-1)),
  (26, o_is_ SH 27),
  (27, o_ic 28 (1)),
  (28, o_retZ)]
set_option maxRecDepth 100000 in
set_option maxHeartbeats 4000000 in
theorem ts_X4_strike {p : Program} {l : Launch} {e : Env} {R : Room} {s : State} {m : MethodId} {args : Array Value} {below : List Frame} {meth : Method} {c : Code} {cells slots : Nat} {Q : State → Prop} {D : va_G} {C : CI3} {A : Nat → Prop} {ad : Nat → Nat} {E : Ex} {env : Nat → Mf} {d : Nat} (X : Cx p R s m args c cX4_strike 2 RX4 D C A ad SH E) (hR : d ≤ R.frames ∧ 100 * d ≤ R.locals) (hcs : cells ≤ R.cells ∧ slots ≤ R.slots) {d_X2_hasRow : Nat} (h_X2_hasRow : CM l SH E yX2_hasRow cX2_hasRow 2 (some .boolean) d_X2_hasRow (env 11)) (hd_X2_hasRow : d_X2_hasRow + 1 ≤ d) {d_X4_remember : Nat} (h_X4_remember : CM l SH E yX4_remember cX4_remember 1 (none) d_X4_remember (env 53)) (hd_X4_remember : d_X4_remember + 1 ≤ d) : ∀ q ∈ T_X4_strike E env, SS p l e R s m args below meth c cells slots Q D C A ad SH 2 cX4_strike (some .boolean) q.1 q.2 := by
  unfold T_X4_strike
  refine List.forall_mem_cons.mpr ⟨s_aload_n (pc := 0) X (i := 0) (by decide +kernel) rfl, ?_⟩
  refine List.forall_mem_cons.mpr ⟨s_getR (pc := 1) X (idx := 10) (by decide +kernel) inTX4 rfl (by decide) lk_RX4_10 rfl, ?_⟩
  refine List.forall_mem_cons.mpr ⟨s_iload_n (pc := 4) X (i := 1) (by decide +kernel) rfl, ?_⟩
  refine List.forall_mem_cons.mpr ⟨s_callV (pc := 5) X (idx := 66) (by decide +kernel) h_X2_hasRow rfl lk_RX4_66 ls_X2_hasRow lz_X2_hasRow li_RX2 lc_X2_hasRow hv_X2_hasRow ⟨Nat.le_trans hd_X2_hasRow hR.1, Nat.le_trans (by have := hd_X2_hasRow; omega) hR.2⟩ hcs, ?_⟩
  refine List.forall_mem_cons.mpr ⟨s_ne0 (pc := 8) X (off := 5) (by decide +kernel) (by decide), ?_⟩
  refine List.forall_mem_cons.mpr ⟨s_iconst (pc := 11) X (n := 0) (by decide +kernel) (by decide), ?_⟩
  refine List.forall_mem_cons.mpr ⟨s_retZ (pc := 12) (by decide +kernel), ?_⟩
  refine List.forall_mem_cons.mpr ⟨s_aload_n (pc := 13) X (i := 0) (by decide +kernel) rfl, ?_⟩
  refine List.forall_mem_cons.mpr ⟨s_callV (pc := 14) X (idx := 44) (by decide +kernel) h_X4_remember rfl lk_RX4_44 ls_X4_remember lz_X4_remember li_RX4 lc_X4_remember hv_X4_remember ⟨Nat.le_trans hd_X4_remember hR.1, Nat.le_trans (by have := hd_X4_remember; omega) hR.2⟩ hcs, ?_⟩
  refine List.forall_mem_cons.mpr ⟨s_aload_n (pc := 17) X (i := 0) (by decide +kernel) rfl, ?_⟩
  refine List.forall_mem_cons.mpr ⟨s_getR (pc := 18) X (idx := 10) (by decide +kernel) inTX4 rfl (by decide) lk_RX4_10 rfl, ?_⟩
  refine List.forall_mem_cons.mpr ⟨s_getR (pc := 21) X (idx := 76) (by decide +kernel) inTX2 rfl (by decide) lk_RX4_76 rfl, ?_⟩
  refine List.forall_mem_cons.mpr ⟨s_iload_n (pc := 24) X (i := 1) (by decide +kernel) rfl, ?_⟩
  refine List.forall_mem_cons.mpr ⟨s_iconst (pc := 25) X (n := -1) (by decide +kernel) (by decide), ?_⟩
  refine List.forall_mem_cons.mpr ⟨s_iast (pc := 26) X (by decide +kernel), ?_⟩
  refine List.forall_mem_cons.mpr ⟨s_iconst (pc := 27) X (n := 1) (by decide +kernel) (by decide), ?_⟩
  refine List.forall_mem_cons.mpr ⟨s_retZ (pc := 28) (by decide +kernel), ?_⟩
  exact fun _ h => absurd h List.not_mem_nil
def T_X4_price (E : Ex) (env : Nat → Mf) : List (Nat × Stq) := [(0, o_al 1 0),
  (1, o_gR SH 4 4 0),
  (4, o_il 5 1),
  (5, o_callV SH env 8 11 1 2),
  (8, o_eq0 21 11),
  (11, o_il 12 2),
  (12, o_lt0 21 15),
  (15, o_il 16 2),
  (16, o_ic 18 (99)),
  (18, o_le 23 21),
  (21, o_ic 22 (0)),
  (22, o_retZ),
  (23, o_al 24 0),
  (24, o_callV SH env 27 53 0 4),
  (27, o_al 28 0),
  (28, o_gR SH 31 4 0),
  (31, o_gR SH 34 2 3),
  (34, o_il 35 1),
  (35, o_il 36 2),
  (36, o_is_ SH 37),
  (37, o_ic 38 (1)),
  (38, o_retZ)]
set_option maxRecDepth 100000 in
set_option maxHeartbeats 4000000 in
theorem ts_X4_price {p : Program} {l : Launch} {e : Env} {R : Room} {s : State} {m : MethodId} {args : Array Value} {below : List Frame} {meth : Method} {c : Code} {cells slots : Nat} {Q : State → Prop} {D : va_G} {C : CI3} {A : Nat → Prop} {ad : Nat → Nat} {E : Ex} {env : Nat → Mf} {d : Nat} (X : Cx p R s m args c cX4_price 3 RX4 D C A ad SH E) (hR : d ≤ R.frames ∧ 100 * d ≤ R.locals) (hcs : cells ≤ R.cells ∧ slots ≤ R.slots) {d_X2_hasRow : Nat} (h_X2_hasRow : CM l SH E yX2_hasRow cX2_hasRow 2 (some .boolean) d_X2_hasRow (env 11)) (hd_X2_hasRow : d_X2_hasRow + 1 ≤ d) {d_X4_remember : Nat} (h_X4_remember : CM l SH E yX4_remember cX4_remember 1 (none) d_X4_remember (env 53)) (hd_X4_remember : d_X4_remember + 1 ≤ d) : ∀ q ∈ T_X4_price E env, SS p l e R s m args below meth c cells slots Q D C A ad SH 3 cX4_price (some .boolean) q.1 q.2 := by
  unfold T_X4_price
  refine List.forall_mem_cons.mpr ⟨s_aload_n (pc := 0) X (i := 0) (by decide +kernel) rfl, ?_⟩
  refine List.forall_mem_cons.mpr ⟨s_getR (pc := 1) X (idx := 10) (by decide +kernel) inTX4 rfl (by decide) lk_RX4_10 rfl, ?_⟩
  refine List.forall_mem_cons.mpr ⟨s_iload_n (pc := 4) X (i := 1) (by decide +kernel) rfl, ?_⟩
  refine List.forall_mem_cons.mpr ⟨s_callV (pc := 5) X (idx := 66) (by decide +kernel) h_X2_hasRow rfl lk_RX4_66 ls_X2_hasRow lz_X2_hasRow li_RX2 lc_X2_hasRow hv_X2_hasRow ⟨Nat.le_trans hd_X2_hasRow hR.1, Nat.le_trans (by have := hd_X2_hasRow; omega) hR.2⟩ hcs, ?_⟩
  refine List.forall_mem_cons.mpr ⟨s_eq0 (pc := 8) X (off := 13) (by decide +kernel) (by decide), ?_⟩
  refine List.forall_mem_cons.mpr ⟨s_iload_n (pc := 11) X (i := 2) (by decide +kernel) rfl, ?_⟩
  refine List.forall_mem_cons.mpr ⟨s_lt0 (pc := 12) X (off := 9) (by decide +kernel) (by decide), ?_⟩
  refine List.forall_mem_cons.mpr ⟨s_iload_n (pc := 15) X (i := 2) (by decide +kernel) rfl, ?_⟩
  refine List.forall_mem_cons.mpr ⟨s_bipush (pc := 16) X (n := 99) (by decide +kernel) (by decide), ?_⟩
  refine List.forall_mem_cons.mpr ⟨s_le (pc := 18) X (off := 5) (by decide +kernel) (by decide), ?_⟩
  refine List.forall_mem_cons.mpr ⟨s_iconst (pc := 21) X (n := 0) (by decide +kernel) (by decide), ?_⟩
  refine List.forall_mem_cons.mpr ⟨s_retZ (pc := 22) (by decide +kernel), ?_⟩
  refine List.forall_mem_cons.mpr ⟨s_aload_n (pc := 23) X (i := 0) (by decide +kernel) rfl, ?_⟩
  refine List.forall_mem_cons.mpr ⟨s_callV (pc := 24) X (idx := 44) (by decide +kernel) h_X4_remember rfl lk_RX4_44 ls_X4_remember lz_X4_remember li_RX4 lc_X4_remember hv_X4_remember ⟨Nat.le_trans hd_X4_remember hR.1, Nat.le_trans (by have := hd_X4_remember; omega) hR.2⟩ hcs, ?_⟩
  refine List.forall_mem_cons.mpr ⟨s_aload_n (pc := 27) X (i := 0) (by decide +kernel) rfl, ?_⟩
  refine List.forall_mem_cons.mpr ⟨s_getR (pc := 28) X (idx := 10) (by decide +kernel) inTX4 rfl (by decide) lk_RX4_10 rfl, ?_⟩
  refine List.forall_mem_cons.mpr ⟨s_getR (pc := 31) X (idx := 79) (by decide +kernel) inTX2 rfl (by decide) lk_RX4_79 rfl, ?_⟩
  refine List.forall_mem_cons.mpr ⟨s_iload_n (pc := 34) X (i := 1) (by decide +kernel) rfl, ?_⟩
  refine List.forall_mem_cons.mpr ⟨s_iload_n (pc := 35) X (i := 2) (by decide +kernel) rfl, ?_⟩
  refine List.forall_mem_cons.mpr ⟨s_iast (pc := 36) X (by decide +kernel), ?_⟩
  refine List.forall_mem_cons.mpr ⟨s_iconst (pc := 37) X (n := 1) (by decide +kernel) (by decide), ?_⟩
  refine List.forall_mem_cons.mpr ⟨s_retZ (pc := 38) (by decide +kernel), ?_⟩
  exact fun _ h => absurd h List.not_mem_nil
def T_X4_swap (E : Ex) (env : Nat → Mf) : List (Nat × Stq) := [(0, o_al 1 0),
  (1, o_gR SH 4 4 0),
  (4, o_il 5 1),
  (5, o_callV SH env 8 12 1 2),
  (8, o_eq0 37 11),
  (11, o_al 12 0),
  (12, o_gR SH 15 4 0),
  (15, o_il 16 2),
  (16, o_callV SH env 19 12 1 2),
  (19, o_eq0 37 22),
  (22, o_al 23 0),
  (23, o_gR SH 26 4 0),
  (26, o_callV SH env 29 16 0 2),
  (29, o_il 30 1),
  (30, o_il 31 2),
  (31, o_mm 34 maxI),
  (34, o_gt 39 37),
  (37, o_ic 38 (0)),
  (38, o_retZ),
  (39, o_al 40 0),
  (40, o_callV SH env 43 53 0 4),
  (43, o_al 44 0),
  (44, o_gR SH 47 4 0),
  (47, o_il 48 1),
  (48, o_il 49 2),
  (49, o_callV SH env 52 17 2 2),
  (52, o_ic 53 (1)),
  (53, o_retZ)]
set_option maxRecDepth 100000 in
set_option maxHeartbeats 4000000 in
theorem ts_X4_swap {p : Program} {l : Launch} {e : Env} {R : Room} {s : State} {m : MethodId} {args : Array Value} {below : List Frame} {meth : Method} {c : Code} {cells slots : Nat} {Q : State → Prop} {D : va_G} {C : CI3} {A : Nat → Prop} {ad : Nat → Nat} {E : Ex} {env : Nat → Mf} {d : Nat} (X : Cx p R s m args c cX4_swap 3 RX4 D C A ad SH E) (hR : d ≤ R.frames ∧ 100 * d ≤ R.locals) (hcs : cells ≤ R.cells ∧ slots ≤ R.slots) (hd1 : 1 ≤ d) {d_X2_hasColumn : Nat} (h_X2_hasColumn : CM l SH E yX2_hasColumn cX2_hasColumn 2 (some .boolean) d_X2_hasColumn (env 12)) (hd_X2_hasColumn : d_X2_hasColumn + 1 ≤ d) {d_X2_shortest : Nat} (h_X2_shortest : CM l SH E yX2_shortest cX2_shortest 3 (some .int) d_X2_shortest (env 16)) (hd_X2_shortest : d_X2_shortest + 1 ≤ d) {d_X4_remember : Nat} (h_X4_remember : CM l SH E yX4_remember cX4_remember 1 (none) d_X4_remember (env 53)) (hd_X4_remember : d_X4_remember + 1 ≤ d) {d_X2_exchange : Nat} (h_X2_exchange : CM l SH E yX2_exchange cX2_exchange 5 (none) d_X2_exchange (env 17)) (hd_X2_exchange : d_X2_exchange + 1 ≤ d) : ∀ q ∈ T_X4_swap E env, SS p l e R s m args below meth c cells slots Q D C A ad SH 3 cX4_swap (some .boolean) q.1 q.2 := by
  unfold T_X4_swap
  refine List.forall_mem_cons.mpr ⟨s_aload_n (pc := 0) X (i := 0) (by decide +kernel) rfl, ?_⟩
  refine List.forall_mem_cons.mpr ⟨s_getR (pc := 1) X (idx := 10) (by decide +kernel) inTX4 rfl (by decide) lk_RX4_10 rfl, ?_⟩
  refine List.forall_mem_cons.mpr ⟨s_iload_n (pc := 4) X (i := 1) (by decide +kernel) rfl, ?_⟩
  refine List.forall_mem_cons.mpr ⟨s_callV (pc := 5) X (idx := 69) (by decide +kernel) h_X2_hasColumn rfl lk_RX4_69 ls_X2_hasColumn lz_X2_hasColumn li_RX2 lc_X2_hasColumn hv_X2_hasColumn ⟨Nat.le_trans hd_X2_hasColumn hR.1, Nat.le_trans (by have := hd_X2_hasColumn; omega) hR.2⟩ hcs, ?_⟩
  refine List.forall_mem_cons.mpr ⟨s_eq0 (pc := 8) X (off := 29) (by decide +kernel) (by decide), ?_⟩
  refine List.forall_mem_cons.mpr ⟨s_aload_n (pc := 11) X (i := 0) (by decide +kernel) rfl, ?_⟩
  refine List.forall_mem_cons.mpr ⟨s_getR (pc := 12) X (idx := 10) (by decide +kernel) inTX4 rfl (by decide) lk_RX4_10 rfl, ?_⟩
  refine List.forall_mem_cons.mpr ⟨s_iload_n (pc := 15) X (i := 2) (by decide +kernel) rfl, ?_⟩
  refine List.forall_mem_cons.mpr ⟨s_callV (pc := 16) X (idx := 69) (by decide +kernel) h_X2_hasColumn rfl lk_RX4_69 ls_X2_hasColumn lz_X2_hasColumn li_RX2 lc_X2_hasColumn hv_X2_hasColumn ⟨Nat.le_trans hd_X2_hasColumn hR.1, Nat.le_trans (by have := hd_X2_hasColumn; omega) hR.2⟩ hcs, ?_⟩
  refine List.forall_mem_cons.mpr ⟨s_eq0 (pc := 19) X (off := 18) (by decide +kernel) (by decide), ?_⟩
  refine List.forall_mem_cons.mpr ⟨s_aload_n (pc := 22) X (i := 0) (by decide +kernel) rfl, ?_⟩
  refine List.forall_mem_cons.mpr ⟨s_getR (pc := 23) X (idx := 10) (by decide +kernel) inTX4 rfl (by decide) lk_RX4_10 rfl, ?_⟩
  refine List.forall_mem_cons.mpr ⟨s_callV (pc := 26) X (idx := 82) (by decide +kernel) h_X2_shortest rfl lk_RX4_82 ls_X2_shortest lz_X2_shortest li_RX2 lc_X2_shortest hv_X2_shortest ⟨Nat.le_trans hd_X2_shortest hR.1, Nat.le_trans (by have := hd_X2_shortest; omega) hR.2⟩ hcs, ?_⟩
  refine List.forall_mem_cons.mpr ⟨s_iload_n (pc := 29) X (i := 1) (by decide +kernel) rfl, ?_⟩
  refine List.forall_mem_cons.mpr ⟨s_iload_n (pc := 30) X (i := 2) (by decide +kernel) rfl, ?_⟩
  refine List.forall_mem_cons.mpr ⟨s_mmax (pc := 31) X (idx := 86) (by decide +kernel) lk_RX4_86 lk_mmax_s lk_math lk_mmax_c ⟨Nat.le_trans hd1 hR.1, Nat.le_trans (Nat.mul_le_mul_left 100 hd1) hR.2⟩ hcs, ?_⟩
  refine List.forall_mem_cons.mpr ⟨s_gt (pc := 34) X (off := 5) (by decide +kernel) (by decide), ?_⟩
  refine List.forall_mem_cons.mpr ⟨s_iconst (pc := 37) X (n := 0) (by decide +kernel) (by decide), ?_⟩
  refine List.forall_mem_cons.mpr ⟨s_retZ (pc := 38) (by decide +kernel), ?_⟩
  refine List.forall_mem_cons.mpr ⟨s_aload_n (pc := 39) X (i := 0) (by decide +kernel) rfl, ?_⟩
  refine List.forall_mem_cons.mpr ⟨s_callV (pc := 40) X (idx := 44) (by decide +kernel) h_X4_remember rfl lk_RX4_44 ls_X4_remember lz_X4_remember li_RX4 lc_X4_remember hv_X4_remember ⟨Nat.le_trans hd_X4_remember hR.1, Nat.le_trans (by have := hd_X4_remember; omega) hR.2⟩ hcs, ?_⟩
  refine List.forall_mem_cons.mpr ⟨s_aload_n (pc := 43) X (i := 0) (by decide +kernel) rfl, ?_⟩
  refine List.forall_mem_cons.mpr ⟨s_getR (pc := 44) X (idx := 10) (by decide +kernel) inTX4 rfl (by decide) lk_RX4_10 rfl, ?_⟩
  refine List.forall_mem_cons.mpr ⟨s_iload_n (pc := 47) X (i := 1) (by decide +kernel) rfl, ?_⟩
  refine List.forall_mem_cons.mpr ⟨s_iload_n (pc := 48) X (i := 2) (by decide +kernel) rfl, ?_⟩
  refine List.forall_mem_cons.mpr ⟨s_callV (pc := 49) X (idx := 92) (by decide +kernel) h_X2_exchange rfl lk_RX4_92 ls_X2_exchange lz_X2_exchange li_RX2 lc_X2_exchange hv_X2_exchange ⟨Nat.le_trans hd_X2_exchange hR.1, Nat.le_trans (by have := hd_X2_exchange; omega) hR.2⟩ hcs, ?_⟩
  refine List.forall_mem_cons.mpr ⟨s_iconst (pc := 52) X (n := 1) (by decide +kernel) (by decide), ?_⟩
  refine List.forall_mem_cons.mpr ⟨s_retZ (pc := 53) (by decide +kernel), ?_⟩
  exact fun _ h => absurd h List.not_mem_nil
def T_X4_at (E : Ex) (env : Nat → Mf) : List (Nat × Stq) := [(0, o_al 1 0),
  (1, o_gR SH 4 4 0),
  (4, o_il 5 1),
  (5, o_callV SH env 8 11 1 2),
  (8, o_eq0 34 11),
  (11, o_al 12 0),
  (12, o_gR SH 15 4 0),
  (15, o_il 16 2),
  (16, o_callV SH env 19 12 1 2),
  (19, o_eq0 34 22),
  (22, o_al 23 0),
  (23, o_gR SH 26 4 0),
  (26, o_il 27 1),
  (27, o_il 28 2),
  (28, o_callV SH env 31 15 2 2),
  (31, o_goto 37),
  (34, o_ic 37 (1001)),
  (37, o_ret)]
set_option maxRecDepth 100000 in
set_option maxHeartbeats 4000000 in
theorem ts_X4_at {p : Program} {l : Launch} {e : Env} {R : Room} {s : State} {m : MethodId} {args : Array Value} {below : List Frame} {meth : Method} {c : Code} {cells slots : Nat} {Q : State → Prop} {D : va_G} {C : CI3} {A : Nat → Prop} {ad : Nat → Nat} {E : Ex} {env : Nat → Mf} {d : Nat} (X : Cx p R s m args c cX4_at 3 RX4 D C A ad SH E) (hR : d ≤ R.frames ∧ 100 * d ≤ R.locals) (hcs : cells ≤ R.cells ∧ slots ≤ R.slots) {d_X2_hasRow : Nat} (h_X2_hasRow : CM l SH E yX2_hasRow cX2_hasRow 2 (some .boolean) d_X2_hasRow (env 11)) (hd_X2_hasRow : d_X2_hasRow + 1 ≤ d) {d_X2_hasColumn : Nat} (h_X2_hasColumn : CM l SH E yX2_hasColumn cX2_hasColumn 2 (some .boolean) d_X2_hasColumn (env 12)) (hd_X2_hasColumn : d_X2_hasColumn + 1 ≤ d) {d_X2_read : Nat} (h_X2_read : CM l SH E yX2_read cX2_read 3 (some .int) d_X2_read (env 15)) (hd_X2_read : d_X2_read + 1 ≤ d) : ∀ q ∈ T_X4_at E env, SS p l e R s m args below meth c cells slots Q D C A ad SH 3 cX4_at (some .int) q.1 q.2 := by
  unfold T_X4_at
  refine List.forall_mem_cons.mpr ⟨s_aload_n (pc := 0) X (i := 0) (by decide +kernel) rfl, ?_⟩
  refine List.forall_mem_cons.mpr ⟨s_getR (pc := 1) X (idx := 10) (by decide +kernel) inTX4 rfl (by decide) lk_RX4_10 rfl, ?_⟩
  refine List.forall_mem_cons.mpr ⟨s_iload_n (pc := 4) X (i := 1) (by decide +kernel) rfl, ?_⟩
  refine List.forall_mem_cons.mpr ⟨s_callV (pc := 5) X (idx := 66) (by decide +kernel) h_X2_hasRow rfl lk_RX4_66 ls_X2_hasRow lz_X2_hasRow li_RX2 lc_X2_hasRow hv_X2_hasRow ⟨Nat.le_trans hd_X2_hasRow hR.1, Nat.le_trans (by have := hd_X2_hasRow; omega) hR.2⟩ hcs, ?_⟩
  refine List.forall_mem_cons.mpr ⟨s_eq0 (pc := 8) X (off := 26) (by decide +kernel) (by decide), ?_⟩
  refine List.forall_mem_cons.mpr ⟨s_aload_n (pc := 11) X (i := 0) (by decide +kernel) rfl, ?_⟩
  refine List.forall_mem_cons.mpr ⟨s_getR (pc := 12) X (idx := 10) (by decide +kernel) inTX4 rfl (by decide) lk_RX4_10 rfl, ?_⟩
  refine List.forall_mem_cons.mpr ⟨s_iload_n (pc := 15) X (i := 2) (by decide +kernel) rfl, ?_⟩
  refine List.forall_mem_cons.mpr ⟨s_callV (pc := 16) X (idx := 69) (by decide +kernel) h_X2_hasColumn rfl lk_RX4_69 ls_X2_hasColumn lz_X2_hasColumn li_RX2 lc_X2_hasColumn hv_X2_hasColumn ⟨Nat.le_trans hd_X2_hasColumn hR.1, Nat.le_trans (by have := hd_X2_hasColumn; omega) hR.2⟩ hcs, ?_⟩
  refine List.forall_mem_cons.mpr ⟨s_eq0 (pc := 19) X (off := 15) (by decide +kernel) (by decide), ?_⟩
  refine List.forall_mem_cons.mpr ⟨s_aload_n (pc := 22) X (i := 0) (by decide +kernel) rfl, ?_⟩
  refine List.forall_mem_cons.mpr ⟨s_getR (pc := 23) X (idx := 10) (by decide +kernel) inTX4 rfl (by decide) lk_RX4_10 rfl, ?_⟩
  refine List.forall_mem_cons.mpr ⟨s_iload_n (pc := 26) X (i := 1) (by decide +kernel) rfl, ?_⟩
  refine List.forall_mem_cons.mpr ⟨s_iload_n (pc := 27) X (i := 2) (by decide +kernel) rfl, ?_⟩
  refine List.forall_mem_cons.mpr ⟨s_callV (pc := 28) X (idx := 96) (by decide +kernel) h_X2_read rfl lk_RX4_96 ls_X2_read lz_X2_read li_RX2 lc_X2_read hv_X2_read ⟨Nat.le_trans hd_X2_read hR.1, Nat.le_trans (by have := hd_X2_read; omega) hR.2⟩ hcs, ?_⟩
  refine List.forall_mem_cons.mpr ⟨s_goto (pc := 31) X (off := 6) (by decide +kernel) (by decide), ?_⟩
  refine List.forall_mem_cons.mpr ⟨s_sipush (pc := 34) X (n := 1001) (by decide +kernel) (by decide), ?_⟩
  refine List.forall_mem_cons.mpr ⟨s_ret (pc := 37) rfl (by decide +kernel), ?_⟩
  exact fun _ h => absurd h List.not_mem_nil
def T_X4_row_0 (E : Ex) (env : Nat → Mf) : List (Nat × Stq) := [(0, o_il 1 1),
  (1, o_call env 4 56 1),
  (4, o_ne0 9 7),
  (7, o_ic 8 (-1)),
  (8, o_ret),
  (9, o_il 10 2),
  (10, o_ne0 30 13),
  (13, o_al 14 0),
  (14, o_gR SH 17 4 0),
  (17, o_il 18 1),
  (18, o_callV SH env 21 11 1 2),
  (21, o_eq0 28 24),
  (24, o_ic 25 (1)),
  (25, o_goto 29),
  (28, o_ic 29 (0)),
  (29, o_ret),
  (30, o_al 31 0),
  (31, o_gR SH 34 4 0),
  (34, o_il 35 1),
  (35, o_callV SH env 38 11 1 2),
  (38, o_ne0 43 41),
  (41, o_ic 42 (-1)),
  (42, o_ret),
  (43, o_il 44 2),
  (44, o_sw 102 [(1, 72), (2, 82), (3, 92)]),
  (72, o_al 73 0),
  (73, o_gR SH 76 4 0),
  (76, o_gR SH 79 2 1),
  (79, o_il 80 1),
  (80, o_ia SH E 81),
  (81, o_ret),
  (82, o_al 83 0),
  (83, o_gR SH 86 4 0),
  (86, o_gR SH 89 2 2),
  (89, o_il 90 1),
  (90, o_ia SH E 91),
  (91, o_ret),
  (92, o_al 93 0),
  (93, o_gR SH 96 4 0),
  (96, o_gR SH 99 2 3)]
set_option maxRecDepth 100000 in
set_option maxHeartbeats 4000000 in
theorem ts_X4_row_0 {p : Program} {l : Launch} {e : Env} {R : Room} {s : State} {m : MethodId} {args : Array Value} {below : List Frame} {meth : Method} {c : Code} {cells slots : Nat} {Q : State → Prop} {D : va_G} {C : CI3} {A : Nat → Prop} {ad : Nat → Nat} {E : Ex} {env : Nat → Mf} {d : Nat} (X : Cx p R s m args c cX4_row 3 RX4 D C A ad SH E) (hR : d ≤ R.frames ∧ 100 * d ≤ R.locals) (hcs : cells ≤ R.cells ∧ slots ≤ R.slots) {d_X4_isSlot : Nat} (h_X4_isSlot : CM l SH E yX4_isSlot cX4_isSlot 1 (some .boolean) d_X4_isSlot (env 56)) (hd_X4_isSlot : d_X4_isSlot + 1 ≤ d) {d_X2_hasRow : Nat} (h_X2_hasRow : CM l SH E yX2_hasRow cX2_hasRow 2 (some .boolean) d_X2_hasRow (env 11)) (hd_X2_hasRow : d_X2_hasRow + 1 ≤ d) : ∀ q ∈ T_X4_row_0 E env, SS p l e R s m args below meth c cells slots Q D C A ad SH 3 cX4_row (some .int) q.1 q.2 := by
  unfold T_X4_row_0
  refine List.forall_mem_cons.mpr ⟨s_iload_n (pc := 0) X (i := 1) (by decide +kernel) rfl, ?_⟩
  refine List.forall_mem_cons.mpr ⟨s_callS (pc := 1) X (idx := 51) (by decide +kernel) h_X4_isSlot lk_RX4_51 ls_X4_isSlot li_RX4 lc_X4_isSlot hy_X4_isSlot ⟨Nat.le_trans hd_X4_isSlot hR.1, Nat.le_trans (by have := hd_X4_isSlot; omega) hR.2⟩ hcs, ?_⟩
  refine List.forall_mem_cons.mpr ⟨s_ne0 (pc := 4) X (off := 5) (by decide +kernel) (by decide), ?_⟩
  refine List.forall_mem_cons.mpr ⟨s_iconst (pc := 7) X (n := -1) (by decide +kernel) (by decide), ?_⟩
  refine List.forall_mem_cons.mpr ⟨s_ret (pc := 8) rfl (by decide +kernel), ?_⟩
  refine List.forall_mem_cons.mpr ⟨s_iload_n (pc := 9) X (i := 2) (by decide +kernel) rfl, ?_⟩
  refine List.forall_mem_cons.mpr ⟨s_ne0 (pc := 10) X (off := 20) (by decide +kernel) (by decide), ?_⟩
  refine List.forall_mem_cons.mpr ⟨s_aload_n (pc := 13) X (i := 0) (by decide +kernel) rfl, ?_⟩
  refine List.forall_mem_cons.mpr ⟨s_getR (pc := 14) X (idx := 10) (by decide +kernel) inTX4 rfl (by decide) lk_RX4_10 rfl, ?_⟩
  refine List.forall_mem_cons.mpr ⟨s_iload_n (pc := 17) X (i := 1) (by decide +kernel) rfl, ?_⟩
  refine List.forall_mem_cons.mpr ⟨s_callV (pc := 18) X (idx := 66) (by decide +kernel) h_X2_hasRow rfl lk_RX4_66 ls_X2_hasRow lz_X2_hasRow li_RX2 lc_X2_hasRow hv_X2_hasRow ⟨Nat.le_trans hd_X2_hasRow hR.1, Nat.le_trans (by have := hd_X2_hasRow; omega) hR.2⟩ hcs, ?_⟩
  refine List.forall_mem_cons.mpr ⟨s_eq0 (pc := 21) X (off := 7) (by decide +kernel) (by decide), ?_⟩
  refine List.forall_mem_cons.mpr ⟨s_iconst (pc := 24) X (n := 1) (by decide +kernel) (by decide), ?_⟩
  refine List.forall_mem_cons.mpr ⟨s_goto (pc := 25) X (off := 4) (by decide +kernel) (by decide), ?_⟩
  refine List.forall_mem_cons.mpr ⟨s_iconst (pc := 28) X (n := 0) (by decide +kernel) (by decide), ?_⟩
  refine List.forall_mem_cons.mpr ⟨s_ret (pc := 29) rfl (by decide +kernel), ?_⟩
  refine List.forall_mem_cons.mpr ⟨s_aload_n (pc := 30) X (i := 0) (by decide +kernel) rfl, ?_⟩
  refine List.forall_mem_cons.mpr ⟨s_getR (pc := 31) X (idx := 10) (by decide +kernel) inTX4 rfl (by decide) lk_RX4_10 rfl, ?_⟩
  refine List.forall_mem_cons.mpr ⟨s_iload_n (pc := 34) X (i := 1) (by decide +kernel) rfl, ?_⟩
  refine List.forall_mem_cons.mpr ⟨s_callV (pc := 35) X (idx := 66) (by decide +kernel) h_X2_hasRow rfl lk_RX4_66 ls_X2_hasRow lz_X2_hasRow li_RX2 lc_X2_hasRow hv_X2_hasRow ⟨Nat.le_trans hd_X2_hasRow hR.1, Nat.le_trans (by have := hd_X2_hasRow; omega) hR.2⟩ hcs, ?_⟩
  refine List.forall_mem_cons.mpr ⟨s_ne0 (pc := 38) X (off := 5) (by decide +kernel) (by decide), ?_⟩
  refine List.forall_mem_cons.mpr ⟨s_iconst (pc := 41) X (n := -1) (by decide +kernel) (by decide), ?_⟩
  refine List.forall_mem_cons.mpr ⟨s_ret (pc := 42) rfl (by decide +kernel), ?_⟩
  refine List.forall_mem_cons.mpr ⟨s_iload_n (pc := 43) X (i := 2) (by decide +kernel) rfl, ?_⟩
  refine List.forall_mem_cons.mpr ⟨s_table (pc := 44) X (df := 58) (lo := 1) (hi := 3) (offs := #[28, 38, 48]) (len := 28) (by decide +kernel) (by decide) (by decide +kernel) (by decide +kernel), ?_⟩
  refine List.forall_mem_cons.mpr ⟨s_aload_n (pc := 72) X (i := 0) (by decide +kernel) rfl, ?_⟩
  refine List.forall_mem_cons.mpr ⟨s_getR (pc := 73) X (idx := 10) (by decide +kernel) inTX4 rfl (by decide) lk_RX4_10 rfl, ?_⟩
  refine List.forall_mem_cons.mpr ⟨s_getR (pc := 76) X (idx := 76) (by decide +kernel) inTX2 rfl (by decide) lk_RX4_76 rfl, ?_⟩
  refine List.forall_mem_cons.mpr ⟨s_iload_n (pc := 79) X (i := 1) (by decide +kernel) rfl, ?_⟩
  refine List.forall_mem_cons.mpr ⟨s_iald (pc := 80) X (by decide +kernel), ?_⟩
  refine List.forall_mem_cons.mpr ⟨s_ret (pc := 81) rfl (by decide +kernel), ?_⟩
  refine List.forall_mem_cons.mpr ⟨s_aload_n (pc := 82) X (i := 0) (by decide +kernel) rfl, ?_⟩
  refine List.forall_mem_cons.mpr ⟨s_getR (pc := 83) X (idx := 10) (by decide +kernel) inTX4 rfl (by decide) lk_RX4_10 rfl, ?_⟩
  refine List.forall_mem_cons.mpr ⟨s_getR (pc := 86) X (idx := 72) (by decide +kernel) inTX2 rfl (by decide) lk_RX4_72 rfl, ?_⟩
  refine List.forall_mem_cons.mpr ⟨s_iload_n (pc := 89) X (i := 1) (by decide +kernel) rfl, ?_⟩
  refine List.forall_mem_cons.mpr ⟨s_iald (pc := 90) X (by decide +kernel), ?_⟩
  refine List.forall_mem_cons.mpr ⟨s_ret (pc := 91) rfl (by decide +kernel), ?_⟩
  refine List.forall_mem_cons.mpr ⟨s_aload_n (pc := 92) X (i := 0) (by decide +kernel) rfl, ?_⟩
  refine List.forall_mem_cons.mpr ⟨s_getR (pc := 93) X (idx := 10) (by decide +kernel) inTX4 rfl (by decide) lk_RX4_10 rfl, ?_⟩
  refine List.forall_mem_cons.mpr ⟨s_getR (pc := 96) X (idx := 79) (by decide +kernel) inTX2 rfl (by decide) lk_RX4_79 rfl, ?_⟩
  exact fun _ h => absurd h List.not_mem_nil
def T_X4_row_1 (E : Ex) (env : Nat → Mf) : List (Nat × Stq) := [(99, o_il 100 1),
  (100, o_ia SH E 101),
  (101, o_ret),
  (102, o_ic 103 (-1)),
  (103, o_ret)]
set_option maxRecDepth 100000 in
set_option maxHeartbeats 4000000 in
theorem ts_X4_row_1 {p : Program} {l : Launch} {e : Env} {R : Room} {s : State} {m : MethodId} {args : Array Value} {below : List Frame} {meth : Method} {c : Code} {cells slots : Nat} {Q : State → Prop} {D : va_G} {C : CI3} {A : Nat → Prop} {ad : Nat → Nat} {E : Ex} {env : Nat → Mf} {d : Nat} (X : Cx p R s m args c cX4_row 3 RX4 D C A ad SH E) (hR : d ≤ R.frames ∧ 100 * d ≤ R.locals) (hcs : cells ≤ R.cells ∧ slots ≤ R.slots) {d_X4_isSlot : Nat} (h_X4_isSlot : CM l SH E yX4_isSlot cX4_isSlot 1 (some .boolean) d_X4_isSlot (env 56)) (hd_X4_isSlot : d_X4_isSlot + 1 ≤ d) {d_X2_hasRow : Nat} (h_X2_hasRow : CM l SH E yX2_hasRow cX2_hasRow 2 (some .boolean) d_X2_hasRow (env 11)) (hd_X2_hasRow : d_X2_hasRow + 1 ≤ d) : ∀ q ∈ T_X4_row_1 E env, SS p l e R s m args below meth c cells slots Q D C A ad SH 3 cX4_row (some .int) q.1 q.2 := by
  unfold T_X4_row_1
  refine List.forall_mem_cons.mpr ⟨s_iload_n (pc := 99) X (i := 1) (by decide +kernel) rfl, ?_⟩
  refine List.forall_mem_cons.mpr ⟨s_iald (pc := 100) X (by decide +kernel), ?_⟩
  refine List.forall_mem_cons.mpr ⟨s_ret (pc := 101) rfl (by decide +kernel), ?_⟩
  refine List.forall_mem_cons.mpr ⟨s_iconst (pc := 102) X (n := -1) (by decide +kernel) (by decide), ?_⟩
  refine List.forall_mem_cons.mpr ⟨s_ret (pc := 103) rfl (by decide +kernel), ?_⟩
  exact fun _ h => absurd h List.not_mem_nil
def T_X4_row (E : Ex) (env : Nat → Mf) : List (Nat × Stq) := T_X4_row_0 E env ++ (T_X4_row_1 E env)
theorem ts_X4_row {p : Program} {l : Launch} {e : Env} {R : Room} {s : State} {m : MethodId} {args : Array Value} {below : List Frame} {meth : Method} {c : Code} {cells slots : Nat} {Q : State → Prop} {D : va_G} {C : CI3} {A : Nat → Prop} {ad : Nat → Nat} {E : Ex} {env : Nat → Mf} {d : Nat} (X : Cx p R s m args c cX4_row 3 RX4 D C A ad SH E) (hR : d ≤ R.frames ∧ 100 * d ≤ R.locals) (hcs : cells ≤ R.cells ∧ slots ≤ R.slots) {d_X4_isSlot : Nat} (h_X4_isSlot : CM l SH E yX4_isSlot cX4_isSlot 1 (some .boolean) d_X4_isSlot (env 56)) (hd_X4_isSlot : d_X4_isSlot + 1 ≤ d) {d_X2_hasRow : Nat} (h_X2_hasRow : CM l SH E yX2_hasRow cX2_hasRow 2 (some .boolean) d_X2_hasRow (env 11)) (hd_X2_hasRow : d_X2_hasRow + 1 ≤ d) : ∀ q ∈ T_X4_row E env, SS p l e R s m args below meth c cells slots Q D C A ad SH 3 cX4_row (some .int) q.1 q.2 := List.forall_mem_append.mpr ⟨ts_X4_row_0 X hR hcs h_X4_isSlot hd_X4_isSlot h_X2_hasRow hd_X2_hasRow, ts_X4_row_1 X hR hcs h_X4_isSlot hd_X4_isSlot h_X2_hasRow hd_X2_hasRow⟩
def T_X4_between (E : Ex) (env : Nat → Mf) : List (Nat × Stq) := [(0, o_il 1 1),
  (1, o_il 2 2),
  (2, o_eq 39 5),
  (5, o_al 6 0),
  (6, o_gR SH 9 4 0),
  (9, o_il 10 1),
  (10, o_callV SH env 13 11 1 2),
  (13, o_eq0 39 16),
  (16, o_al 17 0),
  (17, o_gR SH 20 4 0),
  (20, o_il 21 2),
  (21, o_callV SH env 24 11 1 2),
  (24, o_eq0 39 27),
  (27, o_al 28 0),
  (28, o_gR SH 31 4 0),
  (31, o_il 32 1),
  (32, o_il 33 2),
  (33, o_callV SH env 36 18 2 2),
  (36, o_goto 40),
  (39, o_ic 40 (-1)),
  (40, o_ret)]
set_option maxRecDepth 100000 in
set_option maxHeartbeats 4000000 in
theorem ts_X4_between {p : Program} {l : Launch} {e : Env} {R : Room} {s : State} {m : MethodId} {args : Array Value} {below : List Frame} {meth : Method} {c : Code} {cells slots : Nat} {Q : State → Prop} {D : va_G} {C : CI3} {A : Nat → Prop} {ad : Nat → Nat} {E : Ex} {env : Nat → Mf} {d : Nat} (X : Cx p R s m args c cX4_between 3 RX4 D C A ad SH E) (hR : d ≤ R.frames ∧ 100 * d ≤ R.locals) (hcs : cells ≤ R.cells ∧ slots ≤ R.slots) {d_X2_hasRow : Nat} (h_X2_hasRow : CM l SH E yX2_hasRow cX2_hasRow 2 (some .boolean) d_X2_hasRow (env 11)) (hd_X2_hasRow : d_X2_hasRow + 1 ≤ d) {d_X2_compared : Nat} (h_X2_compared : CM l SH E yX2_compared cX2_compared 5 (some .int) d_X2_compared (env 18)) (hd_X2_compared : d_X2_compared + 1 ≤ d) : ∀ q ∈ T_X4_between E env, SS p l e R s m args below meth c cells slots Q D C A ad SH 3 cX4_between (some .int) q.1 q.2 := by
  unfold T_X4_between
  refine List.forall_mem_cons.mpr ⟨s_iload_n (pc := 0) X (i := 1) (by decide +kernel) rfl, ?_⟩
  refine List.forall_mem_cons.mpr ⟨s_iload_n (pc := 1) X (i := 2) (by decide +kernel) rfl, ?_⟩
  refine List.forall_mem_cons.mpr ⟨s_eq (pc := 2) X (off := 37) (by decide +kernel) (by decide), ?_⟩
  refine List.forall_mem_cons.mpr ⟨s_aload_n (pc := 5) X (i := 0) (by decide +kernel) rfl, ?_⟩
  refine List.forall_mem_cons.mpr ⟨s_getR (pc := 6) X (idx := 10) (by decide +kernel) inTX4 rfl (by decide) lk_RX4_10 rfl, ?_⟩
  refine List.forall_mem_cons.mpr ⟨s_iload_n (pc := 9) X (i := 1) (by decide +kernel) rfl, ?_⟩
  refine List.forall_mem_cons.mpr ⟨s_callV (pc := 10) X (idx := 66) (by decide +kernel) h_X2_hasRow rfl lk_RX4_66 ls_X2_hasRow lz_X2_hasRow li_RX2 lc_X2_hasRow hv_X2_hasRow ⟨Nat.le_trans hd_X2_hasRow hR.1, Nat.le_trans (by have := hd_X2_hasRow; omega) hR.2⟩ hcs, ?_⟩
  refine List.forall_mem_cons.mpr ⟨s_eq0 (pc := 13) X (off := 26) (by decide +kernel) (by decide), ?_⟩
  refine List.forall_mem_cons.mpr ⟨s_aload_n (pc := 16) X (i := 0) (by decide +kernel) rfl, ?_⟩
  refine List.forall_mem_cons.mpr ⟨s_getR (pc := 17) X (idx := 10) (by decide +kernel) inTX4 rfl (by decide) lk_RX4_10 rfl, ?_⟩
  refine List.forall_mem_cons.mpr ⟨s_iload_n (pc := 20) X (i := 2) (by decide +kernel) rfl, ?_⟩
  refine List.forall_mem_cons.mpr ⟨s_callV (pc := 21) X (idx := 66) (by decide +kernel) h_X2_hasRow rfl lk_RX4_66 ls_X2_hasRow lz_X2_hasRow li_RX2 lc_X2_hasRow hv_X2_hasRow ⟨Nat.le_trans hd_X2_hasRow hR.1, Nat.le_trans (by have := hd_X2_hasRow; omega) hR.2⟩ hcs, ?_⟩
  refine List.forall_mem_cons.mpr ⟨s_eq0 (pc := 24) X (off := 15) (by decide +kernel) (by decide), ?_⟩
  refine List.forall_mem_cons.mpr ⟨s_aload_n (pc := 27) X (i := 0) (by decide +kernel) rfl, ?_⟩
  refine List.forall_mem_cons.mpr ⟨s_getR (pc := 28) X (idx := 10) (by decide +kernel) inTX4 rfl (by decide) lk_RX4_10 rfl, ?_⟩
  refine List.forall_mem_cons.mpr ⟨s_iload_n (pc := 31) X (i := 1) (by decide +kernel) rfl, ?_⟩
  refine List.forall_mem_cons.mpr ⟨s_iload_n (pc := 32) X (i := 2) (by decide +kernel) rfl, ?_⟩
  refine List.forall_mem_cons.mpr ⟨s_callV (pc := 33) X (idx := 99) (by decide +kernel) h_X2_compared rfl lk_RX4_99 ls_X2_compared lz_X2_compared li_RX2 lc_X2_compared hv_X2_compared ⟨Nat.le_trans hd_X2_compared hR.1, Nat.le_trans (by have := hd_X2_compared; omega) hR.2⟩ hcs, ?_⟩
  refine List.forall_mem_cons.mpr ⟨s_goto (pc := 36) X (off := 4) (by decide +kernel) (by decide), ?_⟩
  refine List.forall_mem_cons.mpr ⟨s_iconst (pc := 39) X (n := -1) (by decide +kernel) (by decide), ?_⟩
  refine List.forall_mem_cons.mpr ⟨s_ret (pc := 40) rfl (by decide +kernel), ?_⟩
  exact fun _ h => absurd h List.not_mem_nil
def T_X4_pairs (E : Ex) (env : Nat → Mf) : List (Nat × Stq) := [(0, o_al 1 0),
  (1, o_il 2 1),
  (2, o_callV SH env 5 55 1 4),
  (5, o_eq0 22 8),
  (8, o_il 9 1),
  (9, o_call env 12 60 1),
  (12, o_al 13 0),
  (13, o_gR SH 16 4 0),
  (16, o_gI SH 19 2 0),
  (19, o_eq 24 22),
  (22, o_ic 23 (-1)),
  (23, o_ret),
  (24, o_al 25 0),
  (25, o_callV SH env 28 54 0 4),
  (28, o_al 29 0),
  (29, o_gR SH 32 4 2),
  (32, o_gR SH 35 3 0),
  (35, o_il 36 1),
  (36, o_ia SH E 37),
  (37, o_ret)]
set_option maxRecDepth 100000 in
set_option maxHeartbeats 4000000 in
theorem ts_X4_pairs {p : Program} {l : Launch} {e : Env} {R : Room} {s : State} {m : MethodId} {args : Array Value} {below : List Frame} {meth : Method} {c : Code} {cells slots : Nat} {Q : State → Prop} {D : va_G} {C : CI3} {A : Nat → Prop} {ad : Nat → Nat} {E : Ex} {env : Nat → Mf} {d : Nat} (X : Cx p R s m args c cX4_pairs 2 RX4 D C A ad SH E) (hR : d ≤ R.frames ∧ 100 * d ≤ R.locals) (hcs : cells ≤ R.cells ∧ slots ≤ R.slots) {d_X4_isLaw : Nat} (h_X4_isLaw : CM l SH E yX4_isLaw cX4_isLaw 2 (some .boolean) d_X4_isLaw (env 55)) (hd_X4_isLaw : d_X4_isLaw + 1 ≤ d) {d_X4_columnsOf : Nat} (h_X4_columnsOf : CM l SH E yX4_columnsOf cX4_columnsOf 3 (some .int) d_X4_columnsOf (env 60)) (hd_X4_columnsOf : d_X4_columnsOf + 1 ≤ d) {d_X4_count : Nat} (h_X4_count : CM l SH E yX4_count cX4_count 1 (none) d_X4_count (env 54)) (hd_X4_count : d_X4_count + 1 ≤ d) : ∀ q ∈ T_X4_pairs E env, SS p l e R s m args below meth c cells slots Q D C A ad SH 2 cX4_pairs (some .int) q.1 q.2 := by
  unfold T_X4_pairs
  refine List.forall_mem_cons.mpr ⟨s_aload_n (pc := 0) X (i := 0) (by decide +kernel) rfl, ?_⟩
  refine List.forall_mem_cons.mpr ⟨s_iload_n (pc := 1) X (i := 1) (by decide +kernel) rfl, ?_⟩
  refine List.forall_mem_cons.mpr ⟨s_callV (pc := 2) X (idx := 102) (by decide +kernel) h_X4_isLaw rfl lk_RX4_102 ls_X4_isLaw lz_X4_isLaw li_RX4 lc_X4_isLaw hv_X4_isLaw ⟨Nat.le_trans hd_X4_isLaw hR.1, Nat.le_trans (by have := hd_X4_isLaw; omega) hR.2⟩ hcs, ?_⟩
  refine List.forall_mem_cons.mpr ⟨s_eq0 (pc := 5) X (off := 17) (by decide +kernel) (by decide), ?_⟩
  refine List.forall_mem_cons.mpr ⟨s_iload_n (pc := 8) X (i := 1) (by decide +kernel) rfl, ?_⟩
  refine List.forall_mem_cons.mpr ⟨s_callS (pc := 9) X (idx := 105) (by decide +kernel) h_X4_columnsOf lk_RX4_105 ls_X4_columnsOf li_RX4 lc_X4_columnsOf hy_X4_columnsOf ⟨Nat.le_trans hd_X4_columnsOf hR.1, Nat.le_trans (by have := hd_X4_columnsOf; omega) hR.2⟩ hcs, ?_⟩
  refine List.forall_mem_cons.mpr ⟨s_aload_n (pc := 12) X (i := 0) (by decide +kernel) rfl, ?_⟩
  refine List.forall_mem_cons.mpr ⟨s_getR (pc := 13) X (idx := 10) (by decide +kernel) inTX4 rfl (by decide) lk_RX4_10 rfl, ?_⟩
  refine List.forall_mem_cons.mpr ⟨s_getI (pc := 16) X (idx := 109) (by decide +kernel) inTX2 rfl (by decide) lk_RX4_109 rfl, ?_⟩
  refine List.forall_mem_cons.mpr ⟨s_eq (pc := 19) X (off := 5) (by decide +kernel) (by decide), ?_⟩
  refine List.forall_mem_cons.mpr ⟨s_iconst (pc := 22) X (n := -1) (by decide +kernel) (by decide), ?_⟩
  refine List.forall_mem_cons.mpr ⟨s_ret (pc := 23) rfl (by decide +kernel), ?_⟩
  refine List.forall_mem_cons.mpr ⟨s_aload_n (pc := 24) X (i := 0) (by decide +kernel) rfl, ?_⟩
  refine List.forall_mem_cons.mpr ⟨s_callV (pc := 25) X (idx := 113) (by decide +kernel) h_X4_count rfl lk_RX4_113 ls_X4_count lz_X4_count li_RX4 lc_X4_count hv_X4_count ⟨Nat.le_trans hd_X4_count hR.1, Nat.le_trans (by have := hd_X4_count; omega) hR.2⟩ hcs, ?_⟩
  refine List.forall_mem_cons.mpr ⟨s_aload_n (pc := 28) X (i := 0) (by decide +kernel) rfl, ?_⟩
  refine List.forall_mem_cons.mpr ⟨s_getR (pc := 29) X (idx := 26) (by decide +kernel) inTX4 rfl (by decide) lk_RX4_26 rfl, ?_⟩
  refine List.forall_mem_cons.mpr ⟨s_getR (pc := 32) X (idx := 116) (by decide +kernel) inTX3 rfl (by decide) lk_RX4_116 rfl, ?_⟩
  refine List.forall_mem_cons.mpr ⟨s_iload_n (pc := 35) X (i := 1) (by decide +kernel) rfl, ?_⟩
  refine List.forall_mem_cons.mpr ⟨s_iald (pc := 36) X (by decide +kernel), ?_⟩
  refine List.forall_mem_cons.mpr ⟨s_ret (pc := 37) rfl (by decide +kernel), ?_⟩
  exact fun _ h => absurd h List.not_mem_nil
def T_X4_kinds (E : Ex) (env : Nat → Mf) : List (Nat × Stq) := [(0, o_al 1 0),
  (1, o_callV SH env 4 54 0 4),
  (4, o_al 5 0),
  (5, o_gR SH 8 4 2),
  (8, o_callV SH env 11 24 0 3),
  (11, o_ret)]
set_option maxRecDepth 100000 in
set_option maxHeartbeats 4000000 in
theorem ts_X4_kinds {p : Program} {l : Launch} {e : Env} {R : Room} {s : State} {m : MethodId} {args : Array Value} {below : List Frame} {meth : Method} {c : Code} {cells slots : Nat} {Q : State → Prop} {D : va_G} {C : CI3} {A : Nat → Prop} {ad : Nat → Nat} {E : Ex} {env : Nat → Mf} {d : Nat} (X : Cx p R s m args c cX4_kinds 1 RX4 D C A ad SH E) (hR : d ≤ R.frames ∧ 100 * d ≤ R.locals) (hcs : cells ≤ R.cells ∧ slots ≤ R.slots) {d_X4_count : Nat} (h_X4_count : CM l SH E yX4_count cX4_count 1 (none) d_X4_count (env 54)) (hd_X4_count : d_X4_count + 1 ≤ d) {d_X3_unlikeSeen : Nat} (h_X3_unlikeSeen : CM l SH E yX3_unlikeSeen cX3_unlikeSeen 3 (some .int) d_X3_unlikeSeen (env 24)) (hd_X3_unlikeSeen : d_X3_unlikeSeen + 1 ≤ d) : ∀ q ∈ T_X4_kinds E env, SS p l e R s m args below meth c cells slots Q D C A ad SH 1 cX4_kinds (some .int) q.1 q.2 := by
  unfold T_X4_kinds
  refine List.forall_mem_cons.mpr ⟨s_aload_n (pc := 0) X (i := 0) (by decide +kernel) rfl, ?_⟩
  refine List.forall_mem_cons.mpr ⟨s_callV (pc := 1) X (idx := 113) (by decide +kernel) h_X4_count rfl lk_RX4_113 ls_X4_count lz_X4_count li_RX4 lc_X4_count hv_X4_count ⟨Nat.le_trans hd_X4_count hR.1, Nat.le_trans (by have := hd_X4_count; omega) hR.2⟩ hcs, ?_⟩
  refine List.forall_mem_cons.mpr ⟨s_aload_n (pc := 4) X (i := 0) (by decide +kernel) rfl, ?_⟩
  refine List.forall_mem_cons.mpr ⟨s_getR (pc := 5) X (idx := 26) (by decide +kernel) inTX4 rfl (by decide) lk_RX4_26 rfl, ?_⟩
  refine List.forall_mem_cons.mpr ⟨s_callV (pc := 8) X (idx := 119) (by decide +kernel) h_X3_unlikeSeen rfl lk_RX4_119 ls_X3_unlikeSeen lz_X3_unlikeSeen li_RX3 lc_X3_unlikeSeen hv_X3_unlikeSeen ⟨Nat.le_trans hd_X3_unlikeSeen hR.1, Nat.le_trans (by have := hd_X3_unlikeSeen; omega) hR.2⟩ hcs, ?_⟩
  refine List.forall_mem_cons.mpr ⟨s_ret (pc := 11) rfl (by decide +kernel), ?_⟩
  exact fun _ h => absurd h List.not_mem_nil
def T_X4_broken (E : Ex) (env : Nat → Mf) : List (Nat × Stq) := [(0, o_al 1 0),
  (1, o_il 2 1),
  (2, o_callV SH env 5 55 1 4),
  (5, o_ne0 10 8),
  (8, o_ic 9 (-1)),
  (9, o_ret),
  (10, o_al 11 0),
  (11, o_callV SH env 14 54 0 4),
  (14, o_al 15 0),
  (15, o_gR SH 18 4 2),
  (18, o_gR SH 21 3 1),
  (21, o_il 22 1),
  (22, o_ia SH E 23),
  (23, o_ret)]
set_option maxRecDepth 100000 in
set_option maxHeartbeats 4000000 in
theorem ts_X4_broken {p : Program} {l : Launch} {e : Env} {R : Room} {s : State} {m : MethodId} {args : Array Value} {below : List Frame} {meth : Method} {c : Code} {cells slots : Nat} {Q : State → Prop} {D : va_G} {C : CI3} {A : Nat → Prop} {ad : Nat → Nat} {E : Ex} {env : Nat → Mf} {d : Nat} (X : Cx p R s m args c cX4_broken 2 RX4 D C A ad SH E) (hR : d ≤ R.frames ∧ 100 * d ≤ R.locals) (hcs : cells ≤ R.cells ∧ slots ≤ R.slots) {d_X4_isLaw : Nat} (h_X4_isLaw : CM l SH E yX4_isLaw cX4_isLaw 2 (some .boolean) d_X4_isLaw (env 55)) (hd_X4_isLaw : d_X4_isLaw + 1 ≤ d) {d_X4_count : Nat} (h_X4_count : CM l SH E yX4_count cX4_count 1 (none) d_X4_count (env 54)) (hd_X4_count : d_X4_count + 1 ≤ d) : ∀ q ∈ T_X4_broken E env, SS p l e R s m args below meth c cells slots Q D C A ad SH 2 cX4_broken (some .int) q.1 q.2 := by
  unfold T_X4_broken
  refine List.forall_mem_cons.mpr ⟨s_aload_n (pc := 0) X (i := 0) (by decide +kernel) rfl, ?_⟩
  refine List.forall_mem_cons.mpr ⟨s_iload_n (pc := 1) X (i := 1) (by decide +kernel) rfl, ?_⟩
  refine List.forall_mem_cons.mpr ⟨s_callV (pc := 2) X (idx := 102) (by decide +kernel) h_X4_isLaw rfl lk_RX4_102 ls_X4_isLaw lz_X4_isLaw li_RX4 lc_X4_isLaw hv_X4_isLaw ⟨Nat.le_trans hd_X4_isLaw hR.1, Nat.le_trans (by have := hd_X4_isLaw; omega) hR.2⟩ hcs, ?_⟩
  refine List.forall_mem_cons.mpr ⟨s_ne0 (pc := 5) X (off := 5) (by decide +kernel) (by decide), ?_⟩
  refine List.forall_mem_cons.mpr ⟨s_iconst (pc := 8) X (n := -1) (by decide +kernel) (by decide), ?_⟩
  refine List.forall_mem_cons.mpr ⟨s_ret (pc := 9) rfl (by decide +kernel), ?_⟩
  refine List.forall_mem_cons.mpr ⟨s_aload_n (pc := 10) X (i := 0) (by decide +kernel) rfl, ?_⟩
  refine List.forall_mem_cons.mpr ⟨s_callV (pc := 11) X (idx := 113) (by decide +kernel) h_X4_count rfl lk_RX4_113 ls_X4_count lz_X4_count li_RX4 lc_X4_count hv_X4_count ⟨Nat.le_trans hd_X4_count hR.1, Nat.le_trans (by have := hd_X4_count; omega) hR.2⟩ hcs, ?_⟩
  refine List.forall_mem_cons.mpr ⟨s_aload_n (pc := 14) X (i := 0) (by decide +kernel) rfl, ?_⟩
  refine List.forall_mem_cons.mpr ⟨s_getR (pc := 15) X (idx := 26) (by decide +kernel) inTX4 rfl (by decide) lk_RX4_26 rfl, ?_⟩
  refine List.forall_mem_cons.mpr ⟨s_getR (pc := 18) X (idx := 122) (by decide +kernel) inTX3 rfl (by decide) lk_RX4_122 rfl, ?_⟩
  refine List.forall_mem_cons.mpr ⟨s_iload_n (pc := 21) X (i := 1) (by decide +kernel) rfl, ?_⟩
  refine List.forall_mem_cons.mpr ⟨s_iald (pc := 22) X (by decide +kernel), ?_⟩
  refine List.forall_mem_cons.mpr ⟨s_ret (pc := 23) rfl (by decide +kernel), ?_⟩
  exact fun _ h => absurd h List.not_mem_nil
def T_X4_breaker_0 (E : Ex) (env : Nat → Mf) : List (Nat × Stq) := [(0, o_al 1 0),
  (1, o_il 2 1),
  (2, o_callV SH env 5 55 1 4),
  (5, o_eq0 21 8),
  (8, o_il 9 2),
  (9, o_lt0 21 12),
  (12, o_il 13 3),
  (13, o_lt0 21 16),
  (16, o_il 17 3),
  (17, o_ic 18 (1)),
  (18, o_le 23 21),
  (21, o_ic 22 (-1)),
  (22, o_ret),
  (23, o_il 24 2),
  (24, o_is 26 4),
  (26, o_ic 27 (0)),
  (27, o_is 29 5),
  (29, o_il 31 5),
  (31, o_ic 33 (16)),
  (33, o_ge 96 36),
  (36, o_il 38 5),
  (38, o_ic 39 (1)),
  (39, o_b2 40 (fun x y => x + y)),
  (40, o_is 42 6),
  (42, o_il 44 6),
  (44, o_ic 46 (16)),
  (46, o_ge 90 49),
  (49, o_al 50 0),
  (50, o_gR SH 53 4 0),
  (53, o_il 55 5),
  (55, o_il 57 6),
  (57, o_il 58 1),
  (58, o_callV SH env 61 20 3 2),
  (61, o_eq0 84 64),
  (64, o_il 66 4),
  (66, o_ne0 81 69),
  (69, o_il 70 3),
  (70, o_ne0 78 73),
  (73, o_il 75 5),
  (75, o_goto 80)]
set_option maxRecDepth 100000 in
set_option maxHeartbeats 4000000 in
theorem ts_X4_breaker_0 {p : Program} {l : Launch} {e : Env} {R : Room} {s : State} {m : MethodId} {args : Array Value} {below : List Frame} {meth : Method} {c : Code} {cells slots : Nat} {Q : State → Prop} {D : va_G} {C : CI3} {A : Nat → Prop} {ad : Nat → Nat} {E : Ex} {env : Nat → Mf} {d : Nat} (X : Cx p R s m args c cX4_breaker 7 RX4 D C A ad SH E) (hR : d ≤ R.frames ∧ 100 * d ≤ R.locals) (hcs : cells ≤ R.cells ∧ slots ≤ R.slots) {d_X4_isLaw : Nat} (h_X4_isLaw : CM l SH E yX4_isLaw cX4_isLaw 2 (some .boolean) d_X4_isLaw (env 55)) (hd_X4_isLaw : d_X4_isLaw + 1 ≤ d) {d_X2_pairBreaks : Nat} (h_X2_pairBreaks : CM l SH E yX2_pairBreaks cX2_pairBreaks 5 (some .boolean) d_X2_pairBreaks (env 20)) (hd_X2_pairBreaks : d_X2_pairBreaks + 1 ≤ d) : ∀ q ∈ T_X4_breaker_0 E env, SS p l e R s m args below meth c cells slots Q D C A ad SH 7 cX4_breaker (some .int) q.1 q.2 := by
  unfold T_X4_breaker_0
  refine List.forall_mem_cons.mpr ⟨s_aload_n (pc := 0) X (i := 0) (by decide +kernel) rfl, ?_⟩
  refine List.forall_mem_cons.mpr ⟨s_iload_n (pc := 1) X (i := 1) (by decide +kernel) rfl, ?_⟩
  refine List.forall_mem_cons.mpr ⟨s_callV (pc := 2) X (idx := 102) (by decide +kernel) h_X4_isLaw rfl lk_RX4_102 ls_X4_isLaw lz_X4_isLaw li_RX4 lc_X4_isLaw hv_X4_isLaw ⟨Nat.le_trans hd_X4_isLaw hR.1, Nat.le_trans (by have := hd_X4_isLaw; omega) hR.2⟩ hcs, ?_⟩
  refine List.forall_mem_cons.mpr ⟨s_eq0 (pc := 5) X (off := 16) (by decide +kernel) (by decide), ?_⟩
  refine List.forall_mem_cons.mpr ⟨s_iload_n (pc := 8) X (i := 2) (by decide +kernel) rfl, ?_⟩
  refine List.forall_mem_cons.mpr ⟨s_lt0 (pc := 9) X (off := 12) (by decide +kernel) (by decide), ?_⟩
  refine List.forall_mem_cons.mpr ⟨s_iload_n (pc := 12) X (i := 3) (by decide +kernel) rfl, ?_⟩
  refine List.forall_mem_cons.mpr ⟨s_lt0 (pc := 13) X (off := 8) (by decide +kernel) (by decide), ?_⟩
  refine List.forall_mem_cons.mpr ⟨s_iload_n (pc := 16) X (i := 3) (by decide +kernel) rfl, ?_⟩
  refine List.forall_mem_cons.mpr ⟨s_iconst (pc := 17) X (n := 1) (by decide +kernel) (by decide), ?_⟩
  refine List.forall_mem_cons.mpr ⟨s_le (pc := 18) X (off := 5) (by decide +kernel) (by decide), ?_⟩
  refine List.forall_mem_cons.mpr ⟨s_iconst (pc := 21) X (n := -1) (by decide +kernel) (by decide), ?_⟩
  refine List.forall_mem_cons.mpr ⟨s_ret (pc := 22) rfl (by decide +kernel), ?_⟩
  refine List.forall_mem_cons.mpr ⟨s_iload_n (pc := 23) X (i := 2) (by decide +kernel) rfl, ?_⟩
  refine List.forall_mem_cons.mpr ⟨s_istore (pc := 24) X (by decide +kernel) (by decide), ?_⟩
  refine List.forall_mem_cons.mpr ⟨s_iconst (pc := 26) X (n := 0) (by decide +kernel) (by decide), ?_⟩
  refine List.forall_mem_cons.mpr ⟨s_istore (pc := 27) X (by decide +kernel) (by decide), ?_⟩
  refine List.forall_mem_cons.mpr ⟨s_iload (pc := 29) X (by decide +kernel), ?_⟩
  refine List.forall_mem_cons.mpr ⟨s_bipush (pc := 31) X (n := 16) (by decide +kernel) (by decide), ?_⟩
  refine List.forall_mem_cons.mpr ⟨s_ge (pc := 33) X (off := 63) (by decide +kernel) (by decide), ?_⟩
  refine List.forall_mem_cons.mpr ⟨s_iload (pc := 36) X (by decide +kernel), ?_⟩
  refine List.forall_mem_cons.mpr ⟨s_iconst (pc := 38) X (n := 1) (by decide +kernel) (by decide), ?_⟩
  refine List.forall_mem_cons.mpr ⟨s_iadd (pc := 39) X (by decide +kernel), ?_⟩
  refine List.forall_mem_cons.mpr ⟨s_istore (pc := 40) X (by decide +kernel) (by decide), ?_⟩
  refine List.forall_mem_cons.mpr ⟨s_iload (pc := 42) X (by decide +kernel), ?_⟩
  refine List.forall_mem_cons.mpr ⟨s_bipush (pc := 44) X (n := 16) (by decide +kernel) (by decide), ?_⟩
  refine List.forall_mem_cons.mpr ⟨s_ge (pc := 46) X (off := 44) (by decide +kernel) (by decide), ?_⟩
  refine List.forall_mem_cons.mpr ⟨s_aload_n (pc := 49) X (i := 0) (by decide +kernel) rfl, ?_⟩
  refine List.forall_mem_cons.mpr ⟨s_getR (pc := 50) X (idx := 10) (by decide +kernel) inTX4 rfl (by decide) lk_RX4_10 rfl, ?_⟩
  refine List.forall_mem_cons.mpr ⟨s_iload (pc := 53) X (by decide +kernel), ?_⟩
  refine List.forall_mem_cons.mpr ⟨s_iload (pc := 55) X (by decide +kernel), ?_⟩
  refine List.forall_mem_cons.mpr ⟨s_iload_n (pc := 57) X (i := 1) (by decide +kernel) rfl, ?_⟩
  refine List.forall_mem_cons.mpr ⟨s_callV (pc := 58) X (idx := 125) (by decide +kernel) h_X2_pairBreaks rfl lk_RX4_125 ls_X2_pairBreaks lz_X2_pairBreaks li_RX2 lc_X2_pairBreaks hv_X2_pairBreaks ⟨Nat.le_trans hd_X2_pairBreaks hR.1, Nat.le_trans (by have := hd_X2_pairBreaks; omega) hR.2⟩ hcs, ?_⟩
  refine List.forall_mem_cons.mpr ⟨s_eq0 (pc := 61) X (off := 23) (by decide +kernel) (by decide), ?_⟩
  refine List.forall_mem_cons.mpr ⟨s_iload (pc := 64) X (by decide +kernel), ?_⟩
  refine List.forall_mem_cons.mpr ⟨s_ne0 (pc := 66) X (off := 15) (by decide +kernel) (by decide), ?_⟩
  refine List.forall_mem_cons.mpr ⟨s_iload_n (pc := 69) X (i := 3) (by decide +kernel) rfl, ?_⟩
  refine List.forall_mem_cons.mpr ⟨s_ne0 (pc := 70) X (off := 8) (by decide +kernel) (by decide), ?_⟩
  refine List.forall_mem_cons.mpr ⟨s_iload (pc := 73) X (by decide +kernel), ?_⟩
  refine List.forall_mem_cons.mpr ⟨s_goto (pc := 75) X (off := 5) (by decide +kernel) (by decide), ?_⟩
  exact fun _ h => absurd h List.not_mem_nil
def T_X4_breaker_1 (E : Ex) (env : Nat → Mf) : List (Nat × Stq) := [(78, o_il 80 6),
  (80, o_ret),
  (81, o_inc 84 4 (-1)),
  (84, o_inc 87 6 (1)),
  (87, o_goto 42),
  (90, o_inc 93 5 (1)),
  (93, o_goto 29),
  (96, o_ic 97 (-1)),
  (97, o_ret)]
set_option maxRecDepth 100000 in
set_option maxHeartbeats 4000000 in
theorem ts_X4_breaker_1 {p : Program} {l : Launch} {e : Env} {R : Room} {s : State} {m : MethodId} {args : Array Value} {below : List Frame} {meth : Method} {c : Code} {cells slots : Nat} {Q : State → Prop} {D : va_G} {C : CI3} {A : Nat → Prop} {ad : Nat → Nat} {E : Ex} {env : Nat → Mf} {d : Nat} (X : Cx p R s m args c cX4_breaker 7 RX4 D C A ad SH E) (hR : d ≤ R.frames ∧ 100 * d ≤ R.locals) (hcs : cells ≤ R.cells ∧ slots ≤ R.slots) {d_X4_isLaw : Nat} (h_X4_isLaw : CM l SH E yX4_isLaw cX4_isLaw 2 (some .boolean) d_X4_isLaw (env 55)) (hd_X4_isLaw : d_X4_isLaw + 1 ≤ d) {d_X2_pairBreaks : Nat} (h_X2_pairBreaks : CM l SH E yX2_pairBreaks cX2_pairBreaks 5 (some .boolean) d_X2_pairBreaks (env 20)) (hd_X2_pairBreaks : d_X2_pairBreaks + 1 ≤ d) : ∀ q ∈ T_X4_breaker_1 E env, SS p l e R s m args below meth c cells slots Q D C A ad SH 7 cX4_breaker (some .int) q.1 q.2 := by
  unfold T_X4_breaker_1
  refine List.forall_mem_cons.mpr ⟨s_iload (pc := 78) X (by decide +kernel), ?_⟩
  refine List.forall_mem_cons.mpr ⟨s_ret (pc := 80) rfl (by decide +kernel), ?_⟩
  refine List.forall_mem_cons.mpr ⟨s_iinc (pc := 81) X (n := -1) (by decide +kernel) (by decide) (by decide), ?_⟩
  refine List.forall_mem_cons.mpr ⟨s_iinc (pc := 84) X (n := 1) (by decide +kernel) (by decide) (by decide), ?_⟩
  refine List.forall_mem_cons.mpr ⟨s_goto (pc := 87) X (off := -45) (by decide +kernel) (by decide), ?_⟩
  refine List.forall_mem_cons.mpr ⟨s_iinc (pc := 90) X (n := 1) (by decide +kernel) (by decide) (by decide), ?_⟩
  refine List.forall_mem_cons.mpr ⟨s_goto (pc := 93) X (off := -64) (by decide +kernel) (by decide), ?_⟩
  refine List.forall_mem_cons.mpr ⟨s_iconst (pc := 96) X (n := -1) (by decide +kernel) (by decide), ?_⟩
  refine List.forall_mem_cons.mpr ⟨s_ret (pc := 97) rfl (by decide +kernel), ?_⟩
  exact fun _ h => absurd h List.not_mem_nil
def T_X4_breaker (E : Ex) (env : Nat → Mf) : List (Nat × Stq) := T_X4_breaker_0 E env ++ (T_X4_breaker_1 E env)
theorem ts_X4_breaker {p : Program} {l : Launch} {e : Env} {R : Room} {s : State} {m : MethodId} {args : Array Value} {below : List Frame} {meth : Method} {c : Code} {cells slots : Nat} {Q : State → Prop} {D : va_G} {C : CI3} {A : Nat → Prop} {ad : Nat → Nat} {E : Ex} {env : Nat → Mf} {d : Nat} (X : Cx p R s m args c cX4_breaker 7 RX4 D C A ad SH E) (hR : d ≤ R.frames ∧ 100 * d ≤ R.locals) (hcs : cells ≤ R.cells ∧ slots ≤ R.slots) {d_X4_isLaw : Nat} (h_X4_isLaw : CM l SH E yX4_isLaw cX4_isLaw 2 (some .boolean) d_X4_isLaw (env 55)) (hd_X4_isLaw : d_X4_isLaw + 1 ≤ d) {d_X2_pairBreaks : Nat} (h_X2_pairBreaks : CM l SH E yX2_pairBreaks cX2_pairBreaks 5 (some .boolean) d_X2_pairBreaks (env 20)) (hd_X2_pairBreaks : d_X2_pairBreaks + 1 ≤ d) : ∀ q ∈ T_X4_breaker E env, SS p l e R s m args below meth c cells slots Q D C A ad SH 7 cX4_breaker (some .int) q.1 q.2 := List.forall_mem_append.mpr ⟨ts_X4_breaker_0 X hR hcs h_X4_isLaw hd_X4_isLaw h_X2_pairBreaks hd_X2_pairBreaks, ts_X4_breaker_1 X hR hcs h_X4_isLaw hd_X4_isLaw h_X2_pairBreaks hd_X2_pairBreaks⟩
def T_X4_laws (E : Ex) (env : Nat → Mf) : List (Nat × Stq) := [(0, o_il 1 1),
  (1, o_il 2 2),
  (2, o_call env 5 58 2),
  (5, o_ne0 10 8),
  (8, o_ic 9 (-1)),
  (9, o_ret),
  (10, o_al 11 0),
  (11, o_callV SH env 14 54 0 4),
  (14, o_ic 15 (0)),
  (15, o_is 16 3),
  (16, o_ic 17 (1)),
  (17, o_is 19 4),
  (19, o_il 21 4),
  (21, o_gs 24),
  (24, o_al 25 0),
  (25, o_gR SH 28 4 0),
  (28, o_gI SH 31 2 0),
  (31, o_ia SH E 32),
  (32, o_ge 58 35),
  (35, o_al 36 0),
  (36, o_gR SH 39 4 2),
  (39, o_il 41 4),
  (41, o_il 42 1),
  (42, o_il 43 2),
  (43, o_callV SH env 46 25 3 3),
  (46, o_eq0 52 49),
  (49, o_inc 52 3 (1)),
  (52, o_inc 55 4 (1)),
  (55, o_goto 19),
  (58, o_il 59 3),
  (59, o_ret)]
set_option maxRecDepth 100000 in
set_option maxHeartbeats 4000000 in
theorem ts_X4_laws {p : Program} {l : Launch} {e : Env} {R : Room} {s : State} {m : MethodId} {args : Array Value} {below : List Frame} {meth : Method} {c : Code} {cells slots : Nat} {Q : State → Prop} {D : va_G} {C : CI3} {A : Nat → Prop} {ad : Nat → Nat} {E : Ex} {env : Nat → Mf} {d : Nat} (X : Cx p R s m args c cX4_laws 5 RX4 D C A ad SH E) (hR : d ≤ R.frames ∧ 100 * d ≤ R.locals) (hcs : cells ≤ R.cells ∧ slots ≤ R.slots) {d_X4_canSeek : Nat} (h_X4_canSeek : CM l SH E yX4_canSeek cX4_canSeek 2 (some .boolean) d_X4_canSeek (env 58)) (hd_X4_canSeek : d_X4_canSeek + 1 ≤ d) {d_X4_count : Nat} (h_X4_count : CM l SH E yX4_count cX4_count 1 (none) d_X4_count (env 54)) (hd_X4_count : d_X4_count + 1 ≤ d) {d_X3_isFound : Nat} (h_X3_isFound : CM l SH E yX3_isFound cX3_isFound 4 (some .boolean) d_X3_isFound (env 25)) (hd_X3_isFound : d_X3_isFound + 1 ≤ d) : ∀ q ∈ T_X4_laws E env, SS p l e R s m args below meth c cells slots Q D C A ad SH 5 cX4_laws (some .int) q.1 q.2 := by
  unfold T_X4_laws
  refine List.forall_mem_cons.mpr ⟨s_iload_n (pc := 0) X (i := 1) (by decide +kernel) rfl, ?_⟩
  refine List.forall_mem_cons.mpr ⟨s_iload_n (pc := 1) X (i := 2) (by decide +kernel) rfl, ?_⟩
  refine List.forall_mem_cons.mpr ⟨s_callS (pc := 2) X (idx := 129) (by decide +kernel) h_X4_canSeek lk_RX4_129 ls_X4_canSeek li_RX4 lc_X4_canSeek hy_X4_canSeek ⟨Nat.le_trans hd_X4_canSeek hR.1, Nat.le_trans (by have := hd_X4_canSeek; omega) hR.2⟩ hcs, ?_⟩
  refine List.forall_mem_cons.mpr ⟨s_ne0 (pc := 5) X (off := 5) (by decide +kernel) (by decide), ?_⟩
  refine List.forall_mem_cons.mpr ⟨s_iconst (pc := 8) X (n := -1) (by decide +kernel) (by decide), ?_⟩
  refine List.forall_mem_cons.mpr ⟨s_ret (pc := 9) rfl (by decide +kernel), ?_⟩
  refine List.forall_mem_cons.mpr ⟨s_aload_n (pc := 10) X (i := 0) (by decide +kernel) rfl, ?_⟩
  refine List.forall_mem_cons.mpr ⟨s_callV (pc := 11) X (idx := 113) (by decide +kernel) h_X4_count rfl lk_RX4_113 ls_X4_count lz_X4_count li_RX4 lc_X4_count hv_X4_count ⟨Nat.le_trans hd_X4_count hR.1, Nat.le_trans (by have := hd_X4_count; omega) hR.2⟩ hcs, ?_⟩
  refine List.forall_mem_cons.mpr ⟨s_iconst (pc := 14) X (n := 0) (by decide +kernel) (by decide), ?_⟩
  refine List.forall_mem_cons.mpr ⟨s_istore_n (pc := 15) X (i := 3) (by decide +kernel) rfl (by decide), ?_⟩
  refine List.forall_mem_cons.mpr ⟨s_iconst (pc := 16) X (n := 1) (by decide +kernel) (by decide), ?_⟩
  refine List.forall_mem_cons.mpr ⟨s_istore (pc := 17) X (by decide +kernel) (by decide), ?_⟩
  refine List.forall_mem_cons.mpr ⟨s_iload (pc := 19) X (by decide +kernel), ?_⟩
  refine List.forall_mem_cons.mpr ⟨s_gets (pc := 21) X (idx := 132) (by decide +kernel) lk_RX4_132, ?_⟩
  refine List.forall_mem_cons.mpr ⟨s_aload_n (pc := 24) X (i := 0) (by decide +kernel) rfl, ?_⟩
  refine List.forall_mem_cons.mpr ⟨s_getR (pc := 25) X (idx := 10) (by decide +kernel) inTX4 rfl (by decide) lk_RX4_10 rfl, ?_⟩
  refine List.forall_mem_cons.mpr ⟨s_getI (pc := 28) X (idx := 109) (by decide +kernel) inTX2 rfl (by decide) lk_RX4_109 rfl, ?_⟩
  refine List.forall_mem_cons.mpr ⟨s_iald (pc := 31) X (by decide +kernel), ?_⟩
  refine List.forall_mem_cons.mpr ⟨s_ge (pc := 32) X (off := 26) (by decide +kernel) (by decide), ?_⟩
  refine List.forall_mem_cons.mpr ⟨s_aload_n (pc := 35) X (i := 0) (by decide +kernel) rfl, ?_⟩
  refine List.forall_mem_cons.mpr ⟨s_getR (pc := 36) X (idx := 26) (by decide +kernel) inTX4 rfl (by decide) lk_RX4_26 rfl, ?_⟩
  refine List.forall_mem_cons.mpr ⟨s_iload (pc := 39) X (by decide +kernel), ?_⟩
  refine List.forall_mem_cons.mpr ⟨s_iload_n (pc := 41) X (i := 1) (by decide +kernel) rfl, ?_⟩
  refine List.forall_mem_cons.mpr ⟨s_iload_n (pc := 42) X (i := 2) (by decide +kernel) rfl, ?_⟩
  refine List.forall_mem_cons.mpr ⟨s_callV (pc := 43) X (idx := 135) (by decide +kernel) h_X3_isFound rfl lk_RX4_135 ls_X3_isFound lz_X3_isFound li_RX3 lc_X3_isFound hv_X3_isFound ⟨Nat.le_trans hd_X3_isFound hR.1, Nat.le_trans (by have := hd_X3_isFound; omega) hR.2⟩ hcs, ?_⟩
  refine List.forall_mem_cons.mpr ⟨s_eq0 (pc := 46) X (off := 6) (by decide +kernel) (by decide), ?_⟩
  refine List.forall_mem_cons.mpr ⟨s_iinc (pc := 49) X (n := 1) (by decide +kernel) (by decide) (by decide), ?_⟩
  refine List.forall_mem_cons.mpr ⟨s_iinc (pc := 52) X (n := 1) (by decide +kernel) (by decide) (by decide), ?_⟩
  refine List.forall_mem_cons.mpr ⟨s_goto (pc := 55) X (off := -36) (by decide +kernel) (by decide), ?_⟩
  refine List.forall_mem_cons.mpr ⟨s_iload_n (pc := 58) X (i := 3) (by decide +kernel) rfl, ?_⟩
  refine List.forall_mem_cons.mpr ⟨s_ret (pc := 59) rfl (by decide +kernel), ?_⟩
  exact fun _ h => absurd h List.not_mem_nil
def T_X4_law (E : Ex) (env : Nat → Mf) : List (Nat × Stq) := [(0, o_il 1 1),
  (1, o_il 2 2),
  (2, o_call env 5 58 2),
  (5, o_eq0 12 8),
  (8, o_il 9 3),
  (9, o_ge0 14 12),
  (12, o_ic 13 (-1)),
  (13, o_ret),
  (14, o_al 15 0),
  (15, o_callV SH env 18 54 0 4),
  (18, o_il 19 3),
  (19, o_is 21 4),
  (21, o_ic 22 (1)),
  (22, o_is 24 5),
  (24, o_il 26 5),
  (26, o_gs 29),
  (29, o_al 30 0),
  (30, o_gR SH 33 4 0),
  (33, o_gI SH 36 2 0),
  (36, o_ia SH E 37),
  (37, o_ge 71 40),
  (40, o_al 41 0),
  (41, o_gR SH 44 4 2),
  (44, o_il 46 5),
  (46, o_il 47 1),
  (47, o_il 48 2),
  (48, o_callV SH env 51 25 3 3),
  (51, o_eq0 65 54),
  (54, o_il 56 4),
  (56, o_ne0 62 59),
  (59, o_il 61 5),
  (61, o_ret),
  (62, o_inc 65 4 (-1)),
  (65, o_inc 68 5 (1)),
  (68, o_goto 24),
  (71, o_ic 72 (-1)),
  (72, o_ret)]
set_option maxRecDepth 100000 in
set_option maxHeartbeats 4000000 in
theorem ts_X4_law {p : Program} {l : Launch} {e : Env} {R : Room} {s : State} {m : MethodId} {args : Array Value} {below : List Frame} {meth : Method} {c : Code} {cells slots : Nat} {Q : State → Prop} {D : va_G} {C : CI3} {A : Nat → Prop} {ad : Nat → Nat} {E : Ex} {env : Nat → Mf} {d : Nat} (X : Cx p R s m args c cX4_law 6 RX4 D C A ad SH E) (hR : d ≤ R.frames ∧ 100 * d ≤ R.locals) (hcs : cells ≤ R.cells ∧ slots ≤ R.slots) {d_X4_canSeek : Nat} (h_X4_canSeek : CM l SH E yX4_canSeek cX4_canSeek 2 (some .boolean) d_X4_canSeek (env 58)) (hd_X4_canSeek : d_X4_canSeek + 1 ≤ d) {d_X4_count : Nat} (h_X4_count : CM l SH E yX4_count cX4_count 1 (none) d_X4_count (env 54)) (hd_X4_count : d_X4_count + 1 ≤ d) {d_X3_isFound : Nat} (h_X3_isFound : CM l SH E yX3_isFound cX3_isFound 4 (some .boolean) d_X3_isFound (env 25)) (hd_X3_isFound : d_X3_isFound + 1 ≤ d) : ∀ q ∈ T_X4_law E env, SS p l e R s m args below meth c cells slots Q D C A ad SH 6 cX4_law (some .int) q.1 q.2 := by
  unfold T_X4_law
  refine List.forall_mem_cons.mpr ⟨s_iload_n (pc := 0) X (i := 1) (by decide +kernel) rfl, ?_⟩
  refine List.forall_mem_cons.mpr ⟨s_iload_n (pc := 1) X (i := 2) (by decide +kernel) rfl, ?_⟩
  refine List.forall_mem_cons.mpr ⟨s_callS (pc := 2) X (idx := 129) (by decide +kernel) h_X4_canSeek lk_RX4_129 ls_X4_canSeek li_RX4 lc_X4_canSeek hy_X4_canSeek ⟨Nat.le_trans hd_X4_canSeek hR.1, Nat.le_trans (by have := hd_X4_canSeek; omega) hR.2⟩ hcs, ?_⟩
  refine List.forall_mem_cons.mpr ⟨s_eq0 (pc := 5) X (off := 7) (by decide +kernel) (by decide), ?_⟩
  refine List.forall_mem_cons.mpr ⟨s_iload_n (pc := 8) X (i := 3) (by decide +kernel) rfl, ?_⟩
  refine List.forall_mem_cons.mpr ⟨s_ge0 (pc := 9) X (off := 5) (by decide +kernel) (by decide), ?_⟩
  refine List.forall_mem_cons.mpr ⟨s_iconst (pc := 12) X (n := -1) (by decide +kernel) (by decide), ?_⟩
  refine List.forall_mem_cons.mpr ⟨s_ret (pc := 13) rfl (by decide +kernel), ?_⟩
  refine List.forall_mem_cons.mpr ⟨s_aload_n (pc := 14) X (i := 0) (by decide +kernel) rfl, ?_⟩
  refine List.forall_mem_cons.mpr ⟨s_callV (pc := 15) X (idx := 113) (by decide +kernel) h_X4_count rfl lk_RX4_113 ls_X4_count lz_X4_count li_RX4 lc_X4_count hv_X4_count ⟨Nat.le_trans hd_X4_count hR.1, Nat.le_trans (by have := hd_X4_count; omega) hR.2⟩ hcs, ?_⟩
  refine List.forall_mem_cons.mpr ⟨s_iload_n (pc := 18) X (i := 3) (by decide +kernel) rfl, ?_⟩
  refine List.forall_mem_cons.mpr ⟨s_istore (pc := 19) X (by decide +kernel) (by decide), ?_⟩
  refine List.forall_mem_cons.mpr ⟨s_iconst (pc := 21) X (n := 1) (by decide +kernel) (by decide), ?_⟩
  refine List.forall_mem_cons.mpr ⟨s_istore (pc := 22) X (by decide +kernel) (by decide), ?_⟩
  refine List.forall_mem_cons.mpr ⟨s_iload (pc := 24) X (by decide +kernel), ?_⟩
  refine List.forall_mem_cons.mpr ⟨s_gets (pc := 26) X (idx := 132) (by decide +kernel) lk_RX4_132, ?_⟩
  refine List.forall_mem_cons.mpr ⟨s_aload_n (pc := 29) X (i := 0) (by decide +kernel) rfl, ?_⟩
  refine List.forall_mem_cons.mpr ⟨s_getR (pc := 30) X (idx := 10) (by decide +kernel) inTX4 rfl (by decide) lk_RX4_10 rfl, ?_⟩
  refine List.forall_mem_cons.mpr ⟨s_getI (pc := 33) X (idx := 109) (by decide +kernel) inTX2 rfl (by decide) lk_RX4_109 rfl, ?_⟩
  refine List.forall_mem_cons.mpr ⟨s_iald (pc := 36) X (by decide +kernel), ?_⟩
  refine List.forall_mem_cons.mpr ⟨s_ge (pc := 37) X (off := 34) (by decide +kernel) (by decide), ?_⟩
  refine List.forall_mem_cons.mpr ⟨s_aload_n (pc := 40) X (i := 0) (by decide +kernel) rfl, ?_⟩
  refine List.forall_mem_cons.mpr ⟨s_getR (pc := 41) X (idx := 26) (by decide +kernel) inTX4 rfl (by decide) lk_RX4_26 rfl, ?_⟩
  refine List.forall_mem_cons.mpr ⟨s_iload (pc := 44) X (by decide +kernel), ?_⟩
  refine List.forall_mem_cons.mpr ⟨s_iload_n (pc := 46) X (i := 1) (by decide +kernel) rfl, ?_⟩
  refine List.forall_mem_cons.mpr ⟨s_iload_n (pc := 47) X (i := 2) (by decide +kernel) rfl, ?_⟩
  refine List.forall_mem_cons.mpr ⟨s_callV (pc := 48) X (idx := 135) (by decide +kernel) h_X3_isFound rfl lk_RX4_135 ls_X3_isFound lz_X3_isFound li_RX3 lc_X3_isFound hv_X3_isFound ⟨Nat.le_trans hd_X3_isFound hR.1, Nat.le_trans (by have := hd_X3_isFound; omega) hR.2⟩ hcs, ?_⟩
  refine List.forall_mem_cons.mpr ⟨s_eq0 (pc := 51) X (off := 14) (by decide +kernel) (by decide), ?_⟩
  refine List.forall_mem_cons.mpr ⟨s_iload (pc := 54) X (by decide +kernel), ?_⟩
  refine List.forall_mem_cons.mpr ⟨s_ne0 (pc := 56) X (off := 6) (by decide +kernel) (by decide), ?_⟩
  refine List.forall_mem_cons.mpr ⟨s_iload (pc := 59) X (by decide +kernel), ?_⟩
  refine List.forall_mem_cons.mpr ⟨s_ret (pc := 61) rfl (by decide +kernel), ?_⟩
  refine List.forall_mem_cons.mpr ⟨s_iinc (pc := 62) X (n := -1) (by decide +kernel) (by decide) (by decide), ?_⟩
  refine List.forall_mem_cons.mpr ⟨s_iinc (pc := 65) X (n := 1) (by decide +kernel) (by decide) (by decide), ?_⟩
  refine List.forall_mem_cons.mpr ⟨s_goto (pc := 68) X (off := -44) (by decide +kernel) (by decide), ?_⟩
  refine List.forall_mem_cons.mpr ⟨s_iconst (pc := 71) X (n := -1) (by decide +kernel) (by decide), ?_⟩
  refine List.forall_mem_cons.mpr ⟨s_ret (pc := 72) rfl (by decide +kernel), ?_⟩
  exact fun _ h => absurd h List.not_mem_nil
def T_X4_sort_0 (E : Ex) (env : Nat → Mf) : List (Nat × Stq) := [(0, o_al 1 0),
  (1, o_il 2 1),
  (2, o_callV SH env 5 55 1 4),
  (5, o_ne0 10 8),
  (8, o_ic 9 (-1)),
  (9, o_ret),
  (10, o_ic 11 (0)),
  (11, o_is 12 2),
  (12, o_ic 13 (0)),
  (13, o_is 14 3),
  (14, o_ic 15 (0)),
  (15, o_is 17 4),
  (17, o_il 19 4),
  (19, o_ic 20 (4)),
  (20, o_ge 58 23),
  (23, o_il 24 1),
  (24, o_il 26 4),
  (26, o_call env 29 59 2),
  (29, o_is 31 5),
  (31, o_il 33 5),
  (33, o_ic 34 (2)),
  (34, o_ne 43 37),
  (37, o_inc 40 2 (1)),
  (40, o_goto 52),
  (43, o_il 45 5),
  (45, o_ic 46 (2)),
  (46, o_le 52 49),
  (49, o_inc 52 3 (1)),
  (52, o_inc 55 4 (1)),
  (55, o_goto 17),
  (58, o_il 59 3),
  (59, o_ic 60 (1)),
  (60, o_le 65 63),
  (63, o_ic 64 (2)),
  (64, o_ret),
  (65, o_il 66 3),
  (66, o_ic 67 (1)),
  (67, o_eq 75 70),
  (70, o_il 71 2),
  (71, o_ic 72 (1))]
set_option maxRecDepth 100000 in
set_option maxHeartbeats 4000000 in
theorem ts_X4_sort_0 {p : Program} {l : Launch} {e : Env} {R : Room} {s : State} {m : MethodId} {args : Array Value} {below : List Frame} {meth : Method} {c : Code} {cells slots : Nat} {Q : State → Prop} {D : va_G} {C : CI3} {A : Nat → Prop} {ad : Nat → Nat} {E : Ex} {env : Nat → Mf} {d : Nat} (X : Cx p R s m args c cX4_sort 6 RX4 D C A ad SH E) (hR : d ≤ R.frames ∧ 100 * d ≤ R.locals) (hcs : cells ≤ R.cells ∧ slots ≤ R.slots) {d_X4_isLaw : Nat} (h_X4_isLaw : CM l SH E yX4_isLaw cX4_isLaw 2 (some .boolean) d_X4_isLaw (env 55)) (hd_X4_isLaw : d_X4_isLaw + 1 ≤ d) {d_X4_digitOf : Nat} (h_X4_digitOf : CM l SH E yX4_digitOf cX4_digitOf 2 (some .int) d_X4_digitOf (env 59)) (hd_X4_digitOf : d_X4_digitOf + 1 ≤ d) : ∀ q ∈ T_X4_sort_0 E env, SS p l e R s m args below meth c cells slots Q D C A ad SH 6 cX4_sort (some .int) q.1 q.2 := by
  unfold T_X4_sort_0
  refine List.forall_mem_cons.mpr ⟨s_aload_n (pc := 0) X (i := 0) (by decide +kernel) rfl, ?_⟩
  refine List.forall_mem_cons.mpr ⟨s_iload_n (pc := 1) X (i := 1) (by decide +kernel) rfl, ?_⟩
  refine List.forall_mem_cons.mpr ⟨s_callV (pc := 2) X (idx := 102) (by decide +kernel) h_X4_isLaw rfl lk_RX4_102 ls_X4_isLaw lz_X4_isLaw li_RX4 lc_X4_isLaw hv_X4_isLaw ⟨Nat.le_trans hd_X4_isLaw hR.1, Nat.le_trans (by have := hd_X4_isLaw; omega) hR.2⟩ hcs, ?_⟩
  refine List.forall_mem_cons.mpr ⟨s_ne0 (pc := 5) X (off := 5) (by decide +kernel) (by decide), ?_⟩
  refine List.forall_mem_cons.mpr ⟨s_iconst (pc := 8) X (n := -1) (by decide +kernel) (by decide), ?_⟩
  refine List.forall_mem_cons.mpr ⟨s_ret (pc := 9) rfl (by decide +kernel), ?_⟩
  refine List.forall_mem_cons.mpr ⟨s_iconst (pc := 10) X (n := 0) (by decide +kernel) (by decide), ?_⟩
  refine List.forall_mem_cons.mpr ⟨s_istore_n (pc := 11) X (i := 2) (by decide +kernel) rfl (by decide), ?_⟩
  refine List.forall_mem_cons.mpr ⟨s_iconst (pc := 12) X (n := 0) (by decide +kernel) (by decide), ?_⟩
  refine List.forall_mem_cons.mpr ⟨s_istore_n (pc := 13) X (i := 3) (by decide +kernel) rfl (by decide), ?_⟩
  refine List.forall_mem_cons.mpr ⟨s_iconst (pc := 14) X (n := 0) (by decide +kernel) (by decide), ?_⟩
  refine List.forall_mem_cons.mpr ⟨s_istore (pc := 15) X (by decide +kernel) (by decide), ?_⟩
  refine List.forall_mem_cons.mpr ⟨s_iload (pc := 17) X (by decide +kernel), ?_⟩
  refine List.forall_mem_cons.mpr ⟨s_iconst (pc := 19) X (n := 4) (by decide +kernel) (by decide), ?_⟩
  refine List.forall_mem_cons.mpr ⟨s_ge (pc := 20) X (off := 38) (by decide +kernel) (by decide), ?_⟩
  refine List.forall_mem_cons.mpr ⟨s_iload_n (pc := 23) X (i := 1) (by decide +kernel) rfl, ?_⟩
  refine List.forall_mem_cons.mpr ⟨s_iload (pc := 24) X (by decide +kernel), ?_⟩
  refine List.forall_mem_cons.mpr ⟨s_callS (pc := 26) X (idx := 138) (by decide +kernel) h_X4_digitOf lk_RX4_138 ls_X4_digitOf li_RX4 lc_X4_digitOf hy_X4_digitOf ⟨Nat.le_trans hd_X4_digitOf hR.1, Nat.le_trans (by have := hd_X4_digitOf; omega) hR.2⟩ hcs, ?_⟩
  refine List.forall_mem_cons.mpr ⟨s_istore (pc := 29) X (by decide +kernel) (by decide), ?_⟩
  refine List.forall_mem_cons.mpr ⟨s_iload (pc := 31) X (by decide +kernel), ?_⟩
  refine List.forall_mem_cons.mpr ⟨s_iconst (pc := 33) X (n := 2) (by decide +kernel) (by decide), ?_⟩
  refine List.forall_mem_cons.mpr ⟨s_ne (pc := 34) X (off := 9) (by decide +kernel) (by decide), ?_⟩
  refine List.forall_mem_cons.mpr ⟨s_iinc (pc := 37) X (n := 1) (by decide +kernel) (by decide) (by decide), ?_⟩
  refine List.forall_mem_cons.mpr ⟨s_goto (pc := 40) X (off := 12) (by decide +kernel) (by decide), ?_⟩
  refine List.forall_mem_cons.mpr ⟨s_iload (pc := 43) X (by decide +kernel), ?_⟩
  refine List.forall_mem_cons.mpr ⟨s_iconst (pc := 45) X (n := 2) (by decide +kernel) (by decide), ?_⟩
  refine List.forall_mem_cons.mpr ⟨s_le (pc := 46) X (off := 6) (by decide +kernel) (by decide), ?_⟩
  refine List.forall_mem_cons.mpr ⟨s_iinc (pc := 49) X (n := 1) (by decide +kernel) (by decide) (by decide), ?_⟩
  refine List.forall_mem_cons.mpr ⟨s_iinc (pc := 52) X (n := 1) (by decide +kernel) (by decide) (by decide), ?_⟩
  refine List.forall_mem_cons.mpr ⟨s_goto (pc := 55) X (off := -38) (by decide +kernel) (by decide), ?_⟩
  refine List.forall_mem_cons.mpr ⟨s_iload_n (pc := 58) X (i := 3) (by decide +kernel) rfl, ?_⟩
  refine List.forall_mem_cons.mpr ⟨s_iconst (pc := 59) X (n := 1) (by decide +kernel) (by decide), ?_⟩
  refine List.forall_mem_cons.mpr ⟨s_le (pc := 60) X (off := 5) (by decide +kernel) (by decide), ?_⟩
  refine List.forall_mem_cons.mpr ⟨s_iconst (pc := 63) X (n := 2) (by decide +kernel) (by decide), ?_⟩
  refine List.forall_mem_cons.mpr ⟨s_ret (pc := 64) rfl (by decide +kernel), ?_⟩
  refine List.forall_mem_cons.mpr ⟨s_iload_n (pc := 65) X (i := 3) (by decide +kernel) rfl, ?_⟩
  refine List.forall_mem_cons.mpr ⟨s_iconst (pc := 66) X (n := 1) (by decide +kernel) (by decide), ?_⟩
  refine List.forall_mem_cons.mpr ⟨s_eq (pc := 67) X (off := 8) (by decide +kernel) (by decide), ?_⟩
  refine List.forall_mem_cons.mpr ⟨s_iload_n (pc := 70) X (i := 2) (by decide +kernel) rfl, ?_⟩
  refine List.forall_mem_cons.mpr ⟨s_iconst (pc := 71) X (n := 1) (by decide +kernel) (by decide), ?_⟩
  exact fun _ h => absurd h List.not_mem_nil
def T_X4_sort_1 (E : Ex) (env : Nat → Mf) : List (Nat × Stq) := [(72, o_le 77 75),
  (75, o_ic 76 (3)),
  (76, o_ret),
  (77, o_il 78 2),
  (78, o_ic 79 (1)),
  (79, o_ne 86 82),
  (82, o_ic 83 (1)),
  (83, o_goto 87),
  (86, o_ic 87 (0)),
  (87, o_ret)]
set_option maxRecDepth 100000 in
set_option maxHeartbeats 4000000 in
theorem ts_X4_sort_1 {p : Program} {l : Launch} {e : Env} {R : Room} {s : State} {m : MethodId} {args : Array Value} {below : List Frame} {meth : Method} {c : Code} {cells slots : Nat} {Q : State → Prop} {D : va_G} {C : CI3} {A : Nat → Prop} {ad : Nat → Nat} {E : Ex} {env : Nat → Mf} {d : Nat} (X : Cx p R s m args c cX4_sort 6 RX4 D C A ad SH E) (hR : d ≤ R.frames ∧ 100 * d ≤ R.locals) (hcs : cells ≤ R.cells ∧ slots ≤ R.slots) {d_X4_isLaw : Nat} (h_X4_isLaw : CM l SH E yX4_isLaw cX4_isLaw 2 (some .boolean) d_X4_isLaw (env 55)) (hd_X4_isLaw : d_X4_isLaw + 1 ≤ d) {d_X4_digitOf : Nat} (h_X4_digitOf : CM l SH E yX4_digitOf cX4_digitOf 2 (some .int) d_X4_digitOf (env 59)) (hd_X4_digitOf : d_X4_digitOf + 1 ≤ d) : ∀ q ∈ T_X4_sort_1 E env, SS p l e R s m args below meth c cells slots Q D C A ad SH 6 cX4_sort (some .int) q.1 q.2 := by
  unfold T_X4_sort_1
  refine List.forall_mem_cons.mpr ⟨s_le (pc := 72) X (off := 5) (by decide +kernel) (by decide), ?_⟩
  refine List.forall_mem_cons.mpr ⟨s_iconst (pc := 75) X (n := 3) (by decide +kernel) (by decide), ?_⟩
  refine List.forall_mem_cons.mpr ⟨s_ret (pc := 76) rfl (by decide +kernel), ?_⟩
  refine List.forall_mem_cons.mpr ⟨s_iload_n (pc := 77) X (i := 2) (by decide +kernel) rfl, ?_⟩
  refine List.forall_mem_cons.mpr ⟨s_iconst (pc := 78) X (n := 1) (by decide +kernel) (by decide), ?_⟩
  refine List.forall_mem_cons.mpr ⟨s_ne (pc := 79) X (off := 7) (by decide +kernel) (by decide), ?_⟩
  refine List.forall_mem_cons.mpr ⟨s_iconst (pc := 82) X (n := 1) (by decide +kernel) (by decide), ?_⟩
  refine List.forall_mem_cons.mpr ⟨s_goto (pc := 83) X (off := 4) (by decide +kernel) (by decide), ?_⟩
  refine List.forall_mem_cons.mpr ⟨s_iconst (pc := 86) X (n := 0) (by decide +kernel) (by decide), ?_⟩
  refine List.forall_mem_cons.mpr ⟨s_ret (pc := 87) rfl (by decide +kernel), ?_⟩
  exact fun _ h => absurd h List.not_mem_nil
def T_X4_sort (E : Ex) (env : Nat → Mf) : List (Nat × Stq) := T_X4_sort_0 E env ++ (T_X4_sort_1 E env)
theorem ts_X4_sort {p : Program} {l : Launch} {e : Env} {R : Room} {s : State} {m : MethodId} {args : Array Value} {below : List Frame} {meth : Method} {c : Code} {cells slots : Nat} {Q : State → Prop} {D : va_G} {C : CI3} {A : Nat → Prop} {ad : Nat → Nat} {E : Ex} {env : Nat → Mf} {d : Nat} (X : Cx p R s m args c cX4_sort 6 RX4 D C A ad SH E) (hR : d ≤ R.frames ∧ 100 * d ≤ R.locals) (hcs : cells ≤ R.cells ∧ slots ≤ R.slots) {d_X4_isLaw : Nat} (h_X4_isLaw : CM l SH E yX4_isLaw cX4_isLaw 2 (some .boolean) d_X4_isLaw (env 55)) (hd_X4_isLaw : d_X4_isLaw + 1 ≤ d) {d_X4_digitOf : Nat} (h_X4_digitOf : CM l SH E yX4_digitOf cX4_digitOf 2 (some .int) d_X4_digitOf (env 59)) (hd_X4_digitOf : d_X4_digitOf + 1 ≤ d) : ∀ q ∈ T_X4_sort E env, SS p l e R s m args below meth c cells slots Q D C A ad SH 6 cX4_sort (some .int) q.1 q.2 := List.forall_mem_append.mpr ⟨ts_X4_sort_0 X hR hcs h_X4_isLaw hd_X4_isLaw h_X4_digitOf hd_X4_digitOf, ts_X4_sort_1 X hR hcs h_X4_isLaw hd_X4_isLaw h_X4_digitOf hd_X4_digitOf⟩
def T_X4_least (E : Ex) (env : Nat → Mf) : List (Nat × Stq) := [(0, o_al 1 0),
  (1, o_il 2 1),
  (2, o_callV SH env 5 55 1 4),
  (5, o_eq0 19 8),
  (8, o_il 9 1),
  (9, o_il 10 1),
  (10, o_call env 13 61 1),
  (13, o_mm 16 minI),
  (16, o_goto 20),
  (19, o_ic 20 (-1)),
  (20, o_ret)]
set_option maxRecDepth 100000 in
set_option maxHeartbeats 4000000 in
theorem ts_X4_least {p : Program} {l : Launch} {e : Env} {R : Room} {s : State} {m : MethodId} {args : Array Value} {below : List Frame} {meth : Method} {c : Code} {cells slots : Nat} {Q : State → Prop} {D : va_G} {C : CI3} {A : Nat → Prop} {ad : Nat → Nat} {E : Ex} {env : Nat → Mf} {d : Nat} (X : Cx p R s m args c cX4_least 2 RX4 D C A ad SH E) (hR : d ≤ R.frames ∧ 100 * d ≤ R.locals) (hcs : cells ≤ R.cells ∧ slots ≤ R.slots) (hd1 : 1 ≤ d) {d_X4_isLaw : Nat} (h_X4_isLaw : CM l SH E yX4_isLaw cX4_isLaw 2 (some .boolean) d_X4_isLaw (env 55)) (hd_X4_isLaw : d_X4_isLaw + 1 ≤ d) {d_X4_turnedOf : Nat} (h_X4_turnedOf : CM l SH E yX4_turnedOf cX4_turnedOf 4 (some .int) d_X4_turnedOf (env 61)) (hd_X4_turnedOf : d_X4_turnedOf + 1 ≤ d) : ∀ q ∈ T_X4_least E env, SS p l e R s m args below meth c cells slots Q D C A ad SH 2 cX4_least (some .int) q.1 q.2 := by
  unfold T_X4_least
  refine List.forall_mem_cons.mpr ⟨s_aload_n (pc := 0) X (i := 0) (by decide +kernel) rfl, ?_⟩
  refine List.forall_mem_cons.mpr ⟨s_iload_n (pc := 1) X (i := 1) (by decide +kernel) rfl, ?_⟩
  refine List.forall_mem_cons.mpr ⟨s_callV (pc := 2) X (idx := 102) (by decide +kernel) h_X4_isLaw rfl lk_RX4_102 ls_X4_isLaw lz_X4_isLaw li_RX4 lc_X4_isLaw hv_X4_isLaw ⟨Nat.le_trans hd_X4_isLaw hR.1, Nat.le_trans (by have := hd_X4_isLaw; omega) hR.2⟩ hcs, ?_⟩
  refine List.forall_mem_cons.mpr ⟨s_eq0 (pc := 5) X (off := 14) (by decide +kernel) (by decide), ?_⟩
  refine List.forall_mem_cons.mpr ⟨s_iload_n (pc := 8) X (i := 1) (by decide +kernel) rfl, ?_⟩
  refine List.forall_mem_cons.mpr ⟨s_iload_n (pc := 9) X (i := 1) (by decide +kernel) rfl, ?_⟩
  refine List.forall_mem_cons.mpr ⟨s_callS (pc := 10) X (idx := 141) (by decide +kernel) h_X4_turnedOf lk_RX4_141 ls_X4_turnedOf li_RX4 lc_X4_turnedOf hy_X4_turnedOf ⟨Nat.le_trans hd_X4_turnedOf hR.1, Nat.le_trans (by have := hd_X4_turnedOf; omega) hR.2⟩ hcs, ?_⟩
  refine List.forall_mem_cons.mpr ⟨s_mmin (pc := 13) X (idx := 144) (by decide +kernel) lk_RX4_144 lk_mmin_s lk_math lk_mmin_c ⟨Nat.le_trans hd1 hR.1, Nat.le_trans (Nat.mul_le_mul_left 100 hd1) hR.2⟩ hcs, ?_⟩
  refine List.forall_mem_cons.mpr ⟨s_goto (pc := 16) X (off := 4) (by decide +kernel) (by decide), ?_⟩
  refine List.forall_mem_cons.mpr ⟨s_iconst (pc := 19) X (n := -1) (by decide +kernel) (by decide), ?_⟩
  refine List.forall_mem_cons.mpr ⟨s_ret (pc := 20) rfl (by decide +kernel), ?_⟩
  exact fun _ h => absurd h List.not_mem_nil
def T_X4_said (E : Ex) (env : Nat → Mf) : List (Nat × Stq) := [(0, o_al 1 0),
  (1, o_il 2 1),
  (2, o_callV SH env 5 55 1 4),
  (5, o_eq0 16 8),
  (8, o_al 9 0),
  (9, o_il 10 2),
  (10, o_callV SH env 13 55 1 4),
  (13, o_ne0 18 16),
  (16, o_ic 17 (-1)),
  (17, o_ret),
  (18, o_il 19 2),
  (19, o_il 20 1),
  (20, o_call env 23 62 2),
  (23, o_ne0 37 26),
  (26, o_il 27 2),
  (27, o_call env 30 61 1),
  (30, o_il 31 1),
  (31, o_call env 34 62 2),
  (34, o_eq0 41 37),
  (37, o_ic 38 (1)),
  (38, o_goto 42),
  (41, o_ic 42 (0)),
  (42, o_ret)]
set_option maxRecDepth 100000 in
set_option maxHeartbeats 4000000 in
theorem ts_X4_said {p : Program} {l : Launch} {e : Env} {R : Room} {s : State} {m : MethodId} {args : Array Value} {below : List Frame} {meth : Method} {c : Code} {cells slots : Nat} {Q : State → Prop} {D : va_G} {C : CI3} {A : Nat → Prop} {ad : Nat → Nat} {E : Ex} {env : Nat → Mf} {d : Nat} (X : Cx p R s m args c cX4_said 3 RX4 D C A ad SH E) (hR : d ≤ R.frames ∧ 100 * d ≤ R.locals) (hcs : cells ≤ R.cells ∧ slots ≤ R.slots) {d_X4_isLaw : Nat} (h_X4_isLaw : CM l SH E yX4_isLaw cX4_isLaw 2 (some .boolean) d_X4_isLaw (env 55)) (hd_X4_isLaw : d_X4_isLaw + 1 ≤ d) {d_X4_covers : Nat} (h_X4_covers : CM l SH E yX4_covers cX4_covers 5 (some .boolean) d_X4_covers (env 62)) (hd_X4_covers : d_X4_covers + 1 ≤ d) {d_X4_turnedOf : Nat} (h_X4_turnedOf : CM l SH E yX4_turnedOf cX4_turnedOf 4 (some .int) d_X4_turnedOf (env 61)) (hd_X4_turnedOf : d_X4_turnedOf + 1 ≤ d) : ∀ q ∈ T_X4_said E env, SS p l e R s m args below meth c cells slots Q D C A ad SH 3 cX4_said (some .int) q.1 q.2 := by
  unfold T_X4_said
  refine List.forall_mem_cons.mpr ⟨s_aload_n (pc := 0) X (i := 0) (by decide +kernel) rfl, ?_⟩
  refine List.forall_mem_cons.mpr ⟨s_iload_n (pc := 1) X (i := 1) (by decide +kernel) rfl, ?_⟩
  refine List.forall_mem_cons.mpr ⟨s_callV (pc := 2) X (idx := 102) (by decide +kernel) h_X4_isLaw rfl lk_RX4_102 ls_X4_isLaw lz_X4_isLaw li_RX4 lc_X4_isLaw hv_X4_isLaw ⟨Nat.le_trans hd_X4_isLaw hR.1, Nat.le_trans (by have := hd_X4_isLaw; omega) hR.2⟩ hcs, ?_⟩
  refine List.forall_mem_cons.mpr ⟨s_eq0 (pc := 5) X (off := 11) (by decide +kernel) (by decide), ?_⟩
  refine List.forall_mem_cons.mpr ⟨s_aload_n (pc := 8) X (i := 0) (by decide +kernel) rfl, ?_⟩
  refine List.forall_mem_cons.mpr ⟨s_iload_n (pc := 9) X (i := 2) (by decide +kernel) rfl, ?_⟩
  refine List.forall_mem_cons.mpr ⟨s_callV (pc := 10) X (idx := 102) (by decide +kernel) h_X4_isLaw rfl lk_RX4_102 ls_X4_isLaw lz_X4_isLaw li_RX4 lc_X4_isLaw hv_X4_isLaw ⟨Nat.le_trans hd_X4_isLaw hR.1, Nat.le_trans (by have := hd_X4_isLaw; omega) hR.2⟩ hcs, ?_⟩
  refine List.forall_mem_cons.mpr ⟨s_ne0 (pc := 13) X (off := 5) (by decide +kernel) (by decide), ?_⟩
  refine List.forall_mem_cons.mpr ⟨s_iconst (pc := 16) X (n := -1) (by decide +kernel) (by decide), ?_⟩
  refine List.forall_mem_cons.mpr ⟨s_ret (pc := 17) rfl (by decide +kernel), ?_⟩
  refine List.forall_mem_cons.mpr ⟨s_iload_n (pc := 18) X (i := 2) (by decide +kernel) rfl, ?_⟩
  refine List.forall_mem_cons.mpr ⟨s_iload_n (pc := 19) X (i := 1) (by decide +kernel) rfl, ?_⟩
  refine List.forall_mem_cons.mpr ⟨s_callS (pc := 20) X (idx := 147) (by decide +kernel) h_X4_covers lk_RX4_147 ls_X4_covers li_RX4 lc_X4_covers hy_X4_covers ⟨Nat.le_trans hd_X4_covers hR.1, Nat.le_trans (by have := hd_X4_covers; omega) hR.2⟩ hcs, ?_⟩
  refine List.forall_mem_cons.mpr ⟨s_ne0 (pc := 23) X (off := 14) (by decide +kernel) (by decide), ?_⟩
  refine List.forall_mem_cons.mpr ⟨s_iload_n (pc := 26) X (i := 2) (by decide +kernel) rfl, ?_⟩
  refine List.forall_mem_cons.mpr ⟨s_callS (pc := 27) X (idx := 141) (by decide +kernel) h_X4_turnedOf lk_RX4_141 ls_X4_turnedOf li_RX4 lc_X4_turnedOf hy_X4_turnedOf ⟨Nat.le_trans hd_X4_turnedOf hR.1, Nat.le_trans (by have := hd_X4_turnedOf; omega) hR.2⟩ hcs, ?_⟩
  refine List.forall_mem_cons.mpr ⟨s_iload_n (pc := 30) X (i := 1) (by decide +kernel) rfl, ?_⟩
  refine List.forall_mem_cons.mpr ⟨s_callS (pc := 31) X (idx := 147) (by decide +kernel) h_X4_covers lk_RX4_147 ls_X4_covers li_RX4 lc_X4_covers hy_X4_covers ⟨Nat.le_trans hd_X4_covers hR.1, Nat.le_trans (by have := hd_X4_covers; omega) hR.2⟩ hcs, ?_⟩
  refine List.forall_mem_cons.mpr ⟨s_eq0 (pc := 34) X (off := 7) (by decide +kernel) (by decide), ?_⟩
  refine List.forall_mem_cons.mpr ⟨s_iconst (pc := 37) X (n := 1) (by decide +kernel) (by decide), ?_⟩
  refine List.forall_mem_cons.mpr ⟨s_goto (pc := 38) X (off := 4) (by decide +kernel) (by decide), ?_⟩
  refine List.forall_mem_cons.mpr ⟨s_iconst (pc := 41) X (n := 0) (by decide +kernel) (by decide), ?_⟩
  refine List.forall_mem_cons.mpr ⟨s_ret (pc := 42) rfl (by decide +kernel), ?_⟩
  exact fun _ h => absurd h List.not_mem_nil
def T_X4_settles_0 (E : Ex) (env : Nat → Mf) : List (Nat × Stq) := [(0, o_il 1 1),
  (1, o_lt0 17 4),
  (4, o_il 5 1),
  (5, o_ic 6 (1)),
  (6, o_al 7 0),
  (7, o_gR SH 10 4 0),
  (10, o_gI SH 13 2 0),
  (13, o_b2 14 (fun x y => x <<< (y &&& 31))),
  (14, o_lt 19 17),
  (17, o_ic 18 (-1)),
  (18, o_ret),
  (19, o_al 20 0),
  (20, o_callV SH env 23 54 0 4),
  (23, o_il 24 1),
  (24, o_is 25 2),
  (25, o_ic 26 (0)),
  (26, o_is 27 3),
  (27, o_il 28 3),
  (28, o_al 29 0),
  (29, o_gR SH 32 4 0),
  (32, o_gI SH 35 2 0),
  (35, o_ge 81 38),
  (38, o_il 39 1),
  (39, o_il 40 3),
  (40, o_b2 41 (fun x y => x >>> (y &&& 31))),
  (41, o_ic 42 (1)),
  (42, o_b2 43 (fun x y => x &&& y)),
  (43, o_ne0 75 46),
  (46, o_al 47 0),
  (47, o_gR SH 50 4 2),
  (50, o_gR SH 53 3 1),
  (53, o_il 54 1),
  (54, o_call env 57 63 1),
  (57, o_ic 58 (2)),
  (58, o_gs 61),
  (61, o_il 62 3),
  (62, o_ia SH E 63),
  (63, o_b2 64 (fun x y => x * y)),
  (64, o_b2 65 (fun x y => x + y)),
  (65, o_ia SH E 66)]
set_option maxRecDepth 100000 in
set_option maxHeartbeats 4000000 in
theorem ts_X4_settles_0 {p : Program} {l : Launch} {e : Env} {R : Room} {s : State} {m : MethodId} {args : Array Value} {below : List Frame} {meth : Method} {c : Code} {cells slots : Nat} {Q : State → Prop} {D : va_G} {C : CI3} {A : Nat → Prop} {ad : Nat → Nat} {E : Ex} {env : Nat → Mf} {d : Nat} (X : Cx p R s m args c cX4_settles 4 RX4 D C A ad SH E) (hR : d ≤ R.frames ∧ 100 * d ≤ R.locals) (hcs : cells ≤ R.cells ∧ slots ≤ R.slots) {d_X4_count : Nat} (h_X4_count : CM l SH E yX4_count cX4_count 1 (none) d_X4_count (env 54)) (hd_X4_count : d_X4_count + 1 ≤ d) {d_X4_alikeLaw : Nat} (h_X4_alikeLaw : CM l SH E yX4_alikeLaw cX4_alikeLaw 3 (some .int) d_X4_alikeLaw (env 63)) (hd_X4_alikeLaw : d_X4_alikeLaw + 1 ≤ d) : ∀ q ∈ T_X4_settles_0 E env, SS p l e R s m args below meth c cells slots Q D C A ad SH 4 cX4_settles (some .int) q.1 q.2 := by
  unfold T_X4_settles_0
  refine List.forall_mem_cons.mpr ⟨s_iload_n (pc := 0) X (i := 1) (by decide +kernel) rfl, ?_⟩
  refine List.forall_mem_cons.mpr ⟨s_lt0 (pc := 1) X (off := 16) (by decide +kernel) (by decide), ?_⟩
  refine List.forall_mem_cons.mpr ⟨s_iload_n (pc := 4) X (i := 1) (by decide +kernel) rfl, ?_⟩
  refine List.forall_mem_cons.mpr ⟨s_iconst (pc := 5) X (n := 1) (by decide +kernel) (by decide), ?_⟩
  refine List.forall_mem_cons.mpr ⟨s_aload_n (pc := 6) X (i := 0) (by decide +kernel) rfl, ?_⟩
  refine List.forall_mem_cons.mpr ⟨s_getR (pc := 7) X (idx := 10) (by decide +kernel) inTX4 rfl (by decide) lk_RX4_10 rfl, ?_⟩
  refine List.forall_mem_cons.mpr ⟨s_getI (pc := 10) X (idx := 109) (by decide +kernel) inTX2 rfl (by decide) lk_RX4_109 rfl, ?_⟩
  refine List.forall_mem_cons.mpr ⟨s_ishl (pc := 13) X (by decide +kernel), ?_⟩
  refine List.forall_mem_cons.mpr ⟨s_lt (pc := 14) X (off := 5) (by decide +kernel) (by decide), ?_⟩
  refine List.forall_mem_cons.mpr ⟨s_iconst (pc := 17) X (n := -1) (by decide +kernel) (by decide), ?_⟩
  refine List.forall_mem_cons.mpr ⟨s_ret (pc := 18) rfl (by decide +kernel), ?_⟩
  refine List.forall_mem_cons.mpr ⟨s_aload_n (pc := 19) X (i := 0) (by decide +kernel) rfl, ?_⟩
  refine List.forall_mem_cons.mpr ⟨s_callV (pc := 20) X (idx := 113) (by decide +kernel) h_X4_count rfl lk_RX4_113 ls_X4_count lz_X4_count li_RX4 lc_X4_count hv_X4_count ⟨Nat.le_trans hd_X4_count hR.1, Nat.le_trans (by have := hd_X4_count; omega) hR.2⟩ hcs, ?_⟩
  refine List.forall_mem_cons.mpr ⟨s_iload_n (pc := 23) X (i := 1) (by decide +kernel) rfl, ?_⟩
  refine List.forall_mem_cons.mpr ⟨s_istore_n (pc := 24) X (i := 2) (by decide +kernel) rfl (by decide), ?_⟩
  refine List.forall_mem_cons.mpr ⟨s_iconst (pc := 25) X (n := 0) (by decide +kernel) (by decide), ?_⟩
  refine List.forall_mem_cons.mpr ⟨s_istore_n (pc := 26) X (i := 3) (by decide +kernel) rfl (by decide), ?_⟩
  refine List.forall_mem_cons.mpr ⟨s_iload_n (pc := 27) X (i := 3) (by decide +kernel) rfl, ?_⟩
  refine List.forall_mem_cons.mpr ⟨s_aload_n (pc := 28) X (i := 0) (by decide +kernel) rfl, ?_⟩
  refine List.forall_mem_cons.mpr ⟨s_getR (pc := 29) X (idx := 10) (by decide +kernel) inTX4 rfl (by decide) lk_RX4_10 rfl, ?_⟩
  refine List.forall_mem_cons.mpr ⟨s_getI (pc := 32) X (idx := 109) (by decide +kernel) inTX2 rfl (by decide) lk_RX4_109 rfl, ?_⟩
  refine List.forall_mem_cons.mpr ⟨s_ge (pc := 35) X (off := 46) (by decide +kernel) (by decide), ?_⟩
  refine List.forall_mem_cons.mpr ⟨s_iload_n (pc := 38) X (i := 1) (by decide +kernel) rfl, ?_⟩
  refine List.forall_mem_cons.mpr ⟨s_iload_n (pc := 39) X (i := 3) (by decide +kernel) rfl, ?_⟩
  refine List.forall_mem_cons.mpr ⟨s_ishr (pc := 40) X (by decide +kernel), ?_⟩
  refine List.forall_mem_cons.mpr ⟨s_iconst (pc := 41) X (n := 1) (by decide +kernel) (by decide), ?_⟩
  refine List.forall_mem_cons.mpr ⟨s_iand (pc := 42) X (by decide +kernel), ?_⟩
  refine List.forall_mem_cons.mpr ⟨s_ne0 (pc := 43) X (off := 32) (by decide +kernel) (by decide), ?_⟩
  refine List.forall_mem_cons.mpr ⟨s_aload_n (pc := 46) X (i := 0) (by decide +kernel) rfl, ?_⟩
  refine List.forall_mem_cons.mpr ⟨s_getR (pc := 47) X (idx := 26) (by decide +kernel) inTX4 rfl (by decide) lk_RX4_26 rfl, ?_⟩
  refine List.forall_mem_cons.mpr ⟨s_getR (pc := 50) X (idx := 122) (by decide +kernel) inTX3 rfl (by decide) lk_RX4_122 rfl, ?_⟩
  refine List.forall_mem_cons.mpr ⟨s_iload_n (pc := 53) X (i := 1) (by decide +kernel) rfl, ?_⟩
  refine List.forall_mem_cons.mpr ⟨s_callS (pc := 54) X (idx := 150) (by decide +kernel) h_X4_alikeLaw lk_RX4_150 ls_X4_alikeLaw li_RX4 lc_X4_alikeLaw hy_X4_alikeLaw ⟨Nat.le_trans hd_X4_alikeLaw hR.1, Nat.le_trans (by have := hd_X4_alikeLaw; omega) hR.2⟩ hcs, ?_⟩
  refine List.forall_mem_cons.mpr ⟨s_iconst (pc := 57) X (n := 2) (by decide +kernel) (by decide), ?_⟩
  refine List.forall_mem_cons.mpr ⟨s_gets (pc := 58) X (idx := 132) (by decide +kernel) lk_RX4_132, ?_⟩
  refine List.forall_mem_cons.mpr ⟨s_iload_n (pc := 61) X (i := 3) (by decide +kernel) rfl, ?_⟩
  refine List.forall_mem_cons.mpr ⟨s_iald (pc := 62) X (by decide +kernel), ?_⟩
  refine List.forall_mem_cons.mpr ⟨s_imul (pc := 63) X (by decide +kernel), ?_⟩
  refine List.forall_mem_cons.mpr ⟨s_iadd (pc := 64) X (by decide +kernel), ?_⟩
  refine List.forall_mem_cons.mpr ⟨s_iald (pc := 65) X (by decide +kernel), ?_⟩
  exact fun _ h => absurd h List.not_mem_nil
def T_X4_settles_1 (E : Ex) (env : Nat → Mf) : List (Nat × Stq) := [(66, o_ne0 75 69),
  (69, o_il 70 2),
  (70, o_ic 71 (1)),
  (71, o_il 72 3),
  (72, o_b2 73 (fun x y => x <<< (y &&& 31))),
  (73, o_b2 74 (fun x y => x ||| y)),
  (74, o_is 75 2),
  (75, o_inc 78 3 (1)),
  (78, o_goto 27),
  (81, o_il 82 2),
  (82, o_ret)]
set_option maxRecDepth 100000 in
set_option maxHeartbeats 4000000 in
theorem ts_X4_settles_1 {p : Program} {l : Launch} {e : Env} {R : Room} {s : State} {m : MethodId} {args : Array Value} {below : List Frame} {meth : Method} {c : Code} {cells slots : Nat} {Q : State → Prop} {D : va_G} {C : CI3} {A : Nat → Prop} {ad : Nat → Nat} {E : Ex} {env : Nat → Mf} {d : Nat} (X : Cx p R s m args c cX4_settles 4 RX4 D C A ad SH E) (hR : d ≤ R.frames ∧ 100 * d ≤ R.locals) (hcs : cells ≤ R.cells ∧ slots ≤ R.slots) {d_X4_count : Nat} (h_X4_count : CM l SH E yX4_count cX4_count 1 (none) d_X4_count (env 54)) (hd_X4_count : d_X4_count + 1 ≤ d) {d_X4_alikeLaw : Nat} (h_X4_alikeLaw : CM l SH E yX4_alikeLaw cX4_alikeLaw 3 (some .int) d_X4_alikeLaw (env 63)) (hd_X4_alikeLaw : d_X4_alikeLaw + 1 ≤ d) : ∀ q ∈ T_X4_settles_1 E env, SS p l e R s m args below meth c cells slots Q D C A ad SH 4 cX4_settles (some .int) q.1 q.2 := by
  unfold T_X4_settles_1
  refine List.forall_mem_cons.mpr ⟨s_ne0 (pc := 66) X (off := 9) (by decide +kernel) (by decide), ?_⟩
  refine List.forall_mem_cons.mpr ⟨s_iload_n (pc := 69) X (i := 2) (by decide +kernel) rfl, ?_⟩
  refine List.forall_mem_cons.mpr ⟨s_iconst (pc := 70) X (n := 1) (by decide +kernel) (by decide), ?_⟩
  refine List.forall_mem_cons.mpr ⟨s_iload_n (pc := 71) X (i := 3) (by decide +kernel) rfl, ?_⟩
  refine List.forall_mem_cons.mpr ⟨s_ishl (pc := 72) X (by decide +kernel), ?_⟩
  refine List.forall_mem_cons.mpr ⟨s_ior (pc := 73) X (by decide +kernel), ?_⟩
  refine List.forall_mem_cons.mpr ⟨s_istore_n (pc := 74) X (i := 2) (by decide +kernel) rfl (by decide), ?_⟩
  refine List.forall_mem_cons.mpr ⟨s_iinc (pc := 75) X (n := 1) (by decide +kernel) (by decide) (by decide), ?_⟩
  refine List.forall_mem_cons.mpr ⟨s_goto (pc := 78) X (off := -51) (by decide +kernel) (by decide), ?_⟩
  refine List.forall_mem_cons.mpr ⟨s_iload_n (pc := 81) X (i := 2) (by decide +kernel) rfl, ?_⟩
  refine List.forall_mem_cons.mpr ⟨s_ret (pc := 82) rfl (by decide +kernel), ?_⟩
  exact fun _ h => absurd h List.not_mem_nil
def T_X4_settles (E : Ex) (env : Nat → Mf) : List (Nat × Stq) := T_X4_settles_0 E env ++ (T_X4_settles_1 E env)
theorem ts_X4_settles {p : Program} {l : Launch} {e : Env} {R : Room} {s : State} {m : MethodId} {args : Array Value} {below : List Frame} {meth : Method} {c : Code} {cells slots : Nat} {Q : State → Prop} {D : va_G} {C : CI3} {A : Nat → Prop} {ad : Nat → Nat} {E : Ex} {env : Nat → Mf} {d : Nat} (X : Cx p R s m args c cX4_settles 4 RX4 D C A ad SH E) (hR : d ≤ R.frames ∧ 100 * d ≤ R.locals) (hcs : cells ≤ R.cells ∧ slots ≤ R.slots) {d_X4_count : Nat} (h_X4_count : CM l SH E yX4_count cX4_count 1 (none) d_X4_count (env 54)) (hd_X4_count : d_X4_count + 1 ≤ d) {d_X4_alikeLaw : Nat} (h_X4_alikeLaw : CM l SH E yX4_alikeLaw cX4_alikeLaw 3 (some .int) d_X4_alikeLaw (env 63)) (hd_X4_alikeLaw : d_X4_alikeLaw + 1 ≤ d) : ∀ q ∈ T_X4_settles E env, SS p l e R s m args below meth c cells slots Q D C A ad SH 4 cX4_settles (some .int) q.1 q.2 := List.forall_mem_append.mpr ⟨ts_X4_settles_0 X hR hcs h_X4_count hd_X4_count h_X4_alikeLaw hd_X4_alikeLaw, ts_X4_settles_1 X hR hcs h_X4_count hd_X4_count h_X4_alikeLaw hd_X4_alikeLaw⟩
def T_X4_keys (E : Ex) (env : Nat → Mf) : List (Nat × Stq) := [(0, o_al 1 0),
  (1, o_callV SH env 4 54 0 4),
  (4, o_ic 5 (0)),
  (5, o_is 6 1),
  (6, o_ic 7 (0)),
  (7, o_is 8 2),
  (8, o_il 9 2),
  (9, o_ic 10 (1)),
  (10, o_al 11 0),
  (11, o_gR SH 14 4 0),
  (14, o_gI SH 17 2 0),
  (17, o_b2 18 (fun x y => x <<< (y &&& 31))),
  (18, o_ge 41 21),
  (21, o_al 22 0),
  (22, o_gR SH 25 4 2),
  (25, o_il 26 2),
  (26, o_callV SH env 29 27 1 3),
  (29, o_eq0 35 32),
  (32, o_inc 35 1 (1)),
  (35, o_inc 38 2 (1)),
  (38, o_goto 8),
  (41, o_il 42 1),
  (42, o_ret)]
set_option maxRecDepth 100000 in
set_option maxHeartbeats 4000000 in
theorem ts_X4_keys {p : Program} {l : Launch} {e : Env} {R : Room} {s : State} {m : MethodId} {args : Array Value} {below : List Frame} {meth : Method} {c : Code} {cells slots : Nat} {Q : State → Prop} {D : va_G} {C : CI3} {A : Nat → Prop} {ad : Nat → Nat} {E : Ex} {env : Nat → Mf} {d : Nat} (X : Cx p R s m args c cX4_keys 3 RX4 D C A ad SH E) (hR : d ≤ R.frames ∧ 100 * d ≤ R.locals) (hcs : cells ≤ R.cells ∧ slots ≤ R.slots) {d_X4_count : Nat} (h_X4_count : CM l SH E yX4_count cX4_count 1 (none) d_X4_count (env 54)) (hd_X4_count : d_X4_count + 1 ≤ d) {d_X3_isLeastKey : Nat} (h_X3_isLeastKey : CM l SH E yX3_isLeastKey cX3_isLeastKey 3 (some .boolean) d_X3_isLeastKey (env 27)) (hd_X3_isLeastKey : d_X3_isLeastKey + 1 ≤ d) : ∀ q ∈ T_X4_keys E env, SS p l e R s m args below meth c cells slots Q D C A ad SH 3 cX4_keys (some .int) q.1 q.2 := by
  unfold T_X4_keys
  refine List.forall_mem_cons.mpr ⟨s_aload_n (pc := 0) X (i := 0) (by decide +kernel) rfl, ?_⟩
  refine List.forall_mem_cons.mpr ⟨s_callV (pc := 1) X (idx := 113) (by decide +kernel) h_X4_count rfl lk_RX4_113 ls_X4_count lz_X4_count li_RX4 lc_X4_count hv_X4_count ⟨Nat.le_trans hd_X4_count hR.1, Nat.le_trans (by have := hd_X4_count; omega) hR.2⟩ hcs, ?_⟩
  refine List.forall_mem_cons.mpr ⟨s_iconst (pc := 4) X (n := 0) (by decide +kernel) (by decide), ?_⟩
  refine List.forall_mem_cons.mpr ⟨s_istore_n (pc := 5) X (i := 1) (by decide +kernel) rfl (by decide), ?_⟩
  refine List.forall_mem_cons.mpr ⟨s_iconst (pc := 6) X (n := 0) (by decide +kernel) (by decide), ?_⟩
  refine List.forall_mem_cons.mpr ⟨s_istore_n (pc := 7) X (i := 2) (by decide +kernel) rfl (by decide), ?_⟩
  refine List.forall_mem_cons.mpr ⟨s_iload_n (pc := 8) X (i := 2) (by decide +kernel) rfl, ?_⟩
  refine List.forall_mem_cons.mpr ⟨s_iconst (pc := 9) X (n := 1) (by decide +kernel) (by decide), ?_⟩
  refine List.forall_mem_cons.mpr ⟨s_aload_n (pc := 10) X (i := 0) (by decide +kernel) rfl, ?_⟩
  refine List.forall_mem_cons.mpr ⟨s_getR (pc := 11) X (idx := 10) (by decide +kernel) inTX4 rfl (by decide) lk_RX4_10 rfl, ?_⟩
  refine List.forall_mem_cons.mpr ⟨s_getI (pc := 14) X (idx := 109) (by decide +kernel) inTX2 rfl (by decide) lk_RX4_109 rfl, ?_⟩
  refine List.forall_mem_cons.mpr ⟨s_ishl (pc := 17) X (by decide +kernel), ?_⟩
  refine List.forall_mem_cons.mpr ⟨s_ge (pc := 18) X (off := 23) (by decide +kernel) (by decide), ?_⟩
  refine List.forall_mem_cons.mpr ⟨s_aload_n (pc := 21) X (i := 0) (by decide +kernel) rfl, ?_⟩
  refine List.forall_mem_cons.mpr ⟨s_getR (pc := 22) X (idx := 26) (by decide +kernel) inTX4 rfl (by decide) lk_RX4_26 rfl, ?_⟩
  refine List.forall_mem_cons.mpr ⟨s_iload_n (pc := 25) X (i := 2) (by decide +kernel) rfl, ?_⟩
  refine List.forall_mem_cons.mpr ⟨s_callV (pc := 26) X (idx := 153) (by decide +kernel) h_X3_isLeastKey rfl lk_RX4_153 ls_X3_isLeastKey lz_X3_isLeastKey li_RX3 lc_X3_isLeastKey hv_X3_isLeastKey ⟨Nat.le_trans hd_X3_isLeastKey hR.1, Nat.le_trans (by have := hd_X3_isLeastKey; omega) hR.2⟩ hcs, ?_⟩
  refine List.forall_mem_cons.mpr ⟨s_eq0 (pc := 29) X (off := 6) (by decide +kernel) (by decide), ?_⟩
  refine List.forall_mem_cons.mpr ⟨s_iinc (pc := 32) X (n := 1) (by decide +kernel) (by decide) (by decide), ?_⟩
  refine List.forall_mem_cons.mpr ⟨s_iinc (pc := 35) X (n := 1) (by decide +kernel) (by decide) (by decide), ?_⟩
  refine List.forall_mem_cons.mpr ⟨s_goto (pc := 38) X (off := -30) (by decide +kernel) (by decide), ?_⟩
  refine List.forall_mem_cons.mpr ⟨s_iload_n (pc := 41) X (i := 1) (by decide +kernel) rfl, ?_⟩
  refine List.forall_mem_cons.mpr ⟨s_ret (pc := 42) rfl (by decide +kernel), ?_⟩
  exact fun _ h => absurd h List.not_mem_nil
def T_X4_key (E : Ex) (env : Nat → Mf) : List (Nat × Stq) := [(0, o_il 1 1),
  (1, o_ge0 6 4),
  (4, o_ic 5 (-1)),
  (5, o_ret),
  (6, o_al 7 0),
  (7, o_callV SH env 10 54 0 4),
  (10, o_il 11 1),
  (11, o_is 12 2),
  (12, o_ic 13 (0)),
  (13, o_is 14 3),
  (14, o_il 15 3),
  (15, o_ic 16 (1)),
  (16, o_al 17 0),
  (17, o_gR SH 20 4 0),
  (20, o_gI SH 23 2 0),
  (23, o_b2 24 (fun x y => x <<< (y &&& 31))),
  (24, o_ge 53 27),
  (27, o_al 28 0),
  (28, o_gR SH 31 4 2),
  (31, o_il 32 3),
  (32, o_callV SH env 35 27 1 3),
  (35, o_eq0 47 38),
  (38, o_il 39 2),
  (39, o_ne0 44 42),
  (42, o_il 43 3),
  (43, o_ret),
  (44, o_inc 47 2 (-1)),
  (47, o_inc 50 3 (1)),
  (50, o_goto 14),
  (53, o_ic 54 (-1)),
  (54, o_ret)]
set_option maxRecDepth 100000 in
set_option maxHeartbeats 4000000 in
theorem ts_X4_key {p : Program} {l : Launch} {e : Env} {R : Room} {s : State} {m : MethodId} {args : Array Value} {below : List Frame} {meth : Method} {c : Code} {cells slots : Nat} {Q : State → Prop} {D : va_G} {C : CI3} {A : Nat → Prop} {ad : Nat → Nat} {E : Ex} {env : Nat → Mf} {d : Nat} (X : Cx p R s m args c cX4_key 4 RX4 D C A ad SH E) (hR : d ≤ R.frames ∧ 100 * d ≤ R.locals) (hcs : cells ≤ R.cells ∧ slots ≤ R.slots) {d_X4_count : Nat} (h_X4_count : CM l SH E yX4_count cX4_count 1 (none) d_X4_count (env 54)) (hd_X4_count : d_X4_count + 1 ≤ d) {d_X3_isLeastKey : Nat} (h_X3_isLeastKey : CM l SH E yX3_isLeastKey cX3_isLeastKey 3 (some .boolean) d_X3_isLeastKey (env 27)) (hd_X3_isLeastKey : d_X3_isLeastKey + 1 ≤ d) : ∀ q ∈ T_X4_key E env, SS p l e R s m args below meth c cells slots Q D C A ad SH 4 cX4_key (some .int) q.1 q.2 := by
  unfold T_X4_key
  refine List.forall_mem_cons.mpr ⟨s_iload_n (pc := 0) X (i := 1) (by decide +kernel) rfl, ?_⟩
  refine List.forall_mem_cons.mpr ⟨s_ge0 (pc := 1) X (off := 5) (by decide +kernel) (by decide), ?_⟩
  refine List.forall_mem_cons.mpr ⟨s_iconst (pc := 4) X (n := -1) (by decide +kernel) (by decide), ?_⟩
  refine List.forall_mem_cons.mpr ⟨s_ret (pc := 5) rfl (by decide +kernel), ?_⟩
  refine List.forall_mem_cons.mpr ⟨s_aload_n (pc := 6) X (i := 0) (by decide +kernel) rfl, ?_⟩
  refine List.forall_mem_cons.mpr ⟨s_callV (pc := 7) X (idx := 113) (by decide +kernel) h_X4_count rfl lk_RX4_113 ls_X4_count lz_X4_count li_RX4 lc_X4_count hv_X4_count ⟨Nat.le_trans hd_X4_count hR.1, Nat.le_trans (by have := hd_X4_count; omega) hR.2⟩ hcs, ?_⟩
  refine List.forall_mem_cons.mpr ⟨s_iload_n (pc := 10) X (i := 1) (by decide +kernel) rfl, ?_⟩
  refine List.forall_mem_cons.mpr ⟨s_istore_n (pc := 11) X (i := 2) (by decide +kernel) rfl (by decide), ?_⟩
  refine List.forall_mem_cons.mpr ⟨s_iconst (pc := 12) X (n := 0) (by decide +kernel) (by decide), ?_⟩
  refine List.forall_mem_cons.mpr ⟨s_istore_n (pc := 13) X (i := 3) (by decide +kernel) rfl (by decide), ?_⟩
  refine List.forall_mem_cons.mpr ⟨s_iload_n (pc := 14) X (i := 3) (by decide +kernel) rfl, ?_⟩
  refine List.forall_mem_cons.mpr ⟨s_iconst (pc := 15) X (n := 1) (by decide +kernel) (by decide), ?_⟩
  refine List.forall_mem_cons.mpr ⟨s_aload_n (pc := 16) X (i := 0) (by decide +kernel) rfl, ?_⟩
  refine List.forall_mem_cons.mpr ⟨s_getR (pc := 17) X (idx := 10) (by decide +kernel) inTX4 rfl (by decide) lk_RX4_10 rfl, ?_⟩
  refine List.forall_mem_cons.mpr ⟨s_getI (pc := 20) X (idx := 109) (by decide +kernel) inTX2 rfl (by decide) lk_RX4_109 rfl, ?_⟩
  refine List.forall_mem_cons.mpr ⟨s_ishl (pc := 23) X (by decide +kernel), ?_⟩
  refine List.forall_mem_cons.mpr ⟨s_ge (pc := 24) X (off := 29) (by decide +kernel) (by decide), ?_⟩
  refine List.forall_mem_cons.mpr ⟨s_aload_n (pc := 27) X (i := 0) (by decide +kernel) rfl, ?_⟩
  refine List.forall_mem_cons.mpr ⟨s_getR (pc := 28) X (idx := 26) (by decide +kernel) inTX4 rfl (by decide) lk_RX4_26 rfl, ?_⟩
  refine List.forall_mem_cons.mpr ⟨s_iload_n (pc := 31) X (i := 3) (by decide +kernel) rfl, ?_⟩
  refine List.forall_mem_cons.mpr ⟨s_callV (pc := 32) X (idx := 153) (by decide +kernel) h_X3_isLeastKey rfl lk_RX4_153 ls_X3_isLeastKey lz_X3_isLeastKey li_RX3 lc_X3_isLeastKey hv_X3_isLeastKey ⟨Nat.le_trans hd_X3_isLeastKey hR.1, Nat.le_trans (by have := hd_X3_isLeastKey; omega) hR.2⟩ hcs, ?_⟩
  refine List.forall_mem_cons.mpr ⟨s_eq0 (pc := 35) X (off := 12) (by decide +kernel) (by decide), ?_⟩
  refine List.forall_mem_cons.mpr ⟨s_iload_n (pc := 38) X (i := 2) (by decide +kernel) rfl, ?_⟩
  refine List.forall_mem_cons.mpr ⟨s_ne0 (pc := 39) X (off := 5) (by decide +kernel) (by decide), ?_⟩
  refine List.forall_mem_cons.mpr ⟨s_iload_n (pc := 42) X (i := 3) (by decide +kernel) rfl, ?_⟩
  refine List.forall_mem_cons.mpr ⟨s_ret (pc := 43) rfl (by decide +kernel), ?_⟩
  refine List.forall_mem_cons.mpr ⟨s_iinc (pc := 44) X (n := -1) (by decide +kernel) (by decide) (by decide), ?_⟩
  refine List.forall_mem_cons.mpr ⟨s_iinc (pc := 47) X (n := 1) (by decide +kernel) (by decide) (by decide), ?_⟩
  refine List.forall_mem_cons.mpr ⟨s_goto (pc := 50) X (off := -36) (by decide +kernel) (by decide), ?_⟩
  refine List.forall_mem_cons.mpr ⟨s_iconst (pc := 53) X (n := -1) (by decide +kernel) (by decide), ?_⟩
  refine List.forall_mem_cons.mpr ⟨s_ret (pc := 54) rfl (by decide +kernel), ?_⟩
  exact fun _ h => absurd h List.not_mem_nil
def T_X4_tell (E : Ex) (env : Nat → Mf) : List (Nat × Stq) := [(0, o_il 1 1),
  (1, o_lt0 21 4),
  (4, o_il 5 1),
  (5, o_ic 6 (4)),
  (6, o_ge 21 9),
  (9, o_il 10 2),
  (10, o_eq0 23 13),
  (13, o_al 14 0),
  (14, o_il 15 2),
  (15, o_callV SH env 18 55 1 4),
  (18, o_ne0 23 21),
  (21, o_ic 22 (0)),
  (22, o_retZ),
  (23, o_al 24 0),
  (24, o_callV SH env 27 53 0 4),
  (27, o_al 28 0),
  (28, o_gR SH 31 4 0),
  (31, o_gR SH 34 2 5),
  (34, o_il 35 1),
  (35, o_il 36 2),
  (36, o_is_ SH 37),
  (37, o_ic 38 (1)),
  (38, o_retZ)]
set_option maxRecDepth 100000 in
set_option maxHeartbeats 4000000 in
theorem ts_X4_tell {p : Program} {l : Launch} {e : Env} {R : Room} {s : State} {m : MethodId} {args : Array Value} {below : List Frame} {meth : Method} {c : Code} {cells slots : Nat} {Q : State → Prop} {D : va_G} {C : CI3} {A : Nat → Prop} {ad : Nat → Nat} {E : Ex} {env : Nat → Mf} {d : Nat} (X : Cx p R s m args c cX4_tell 3 RX4 D C A ad SH E) (hR : d ≤ R.frames ∧ 100 * d ≤ R.locals) (hcs : cells ≤ R.cells ∧ slots ≤ R.slots) {d_X4_isLaw : Nat} (h_X4_isLaw : CM l SH E yX4_isLaw cX4_isLaw 2 (some .boolean) d_X4_isLaw (env 55)) (hd_X4_isLaw : d_X4_isLaw + 1 ≤ d) {d_X4_remember : Nat} (h_X4_remember : CM l SH E yX4_remember cX4_remember 1 (none) d_X4_remember (env 53)) (hd_X4_remember : d_X4_remember + 1 ≤ d) : ∀ q ∈ T_X4_tell E env, SS p l e R s m args below meth c cells slots Q D C A ad SH 3 cX4_tell (some .boolean) q.1 q.2 := by
  unfold T_X4_tell
  refine List.forall_mem_cons.mpr ⟨s_iload_n (pc := 0) X (i := 1) (by decide +kernel) rfl, ?_⟩
  refine List.forall_mem_cons.mpr ⟨s_lt0 (pc := 1) X (off := 20) (by decide +kernel) (by decide), ?_⟩
  refine List.forall_mem_cons.mpr ⟨s_iload_n (pc := 4) X (i := 1) (by decide +kernel) rfl, ?_⟩
  refine List.forall_mem_cons.mpr ⟨s_iconst (pc := 5) X (n := 4) (by decide +kernel) (by decide), ?_⟩
  refine List.forall_mem_cons.mpr ⟨s_ge (pc := 6) X (off := 15) (by decide +kernel) (by decide), ?_⟩
  refine List.forall_mem_cons.mpr ⟨s_iload_n (pc := 9) X (i := 2) (by decide +kernel) rfl, ?_⟩
  refine List.forall_mem_cons.mpr ⟨s_eq0 (pc := 10) X (off := 13) (by decide +kernel) (by decide), ?_⟩
  refine List.forall_mem_cons.mpr ⟨s_aload_n (pc := 13) X (i := 0) (by decide +kernel) rfl, ?_⟩
  refine List.forall_mem_cons.mpr ⟨s_iload_n (pc := 14) X (i := 2) (by decide +kernel) rfl, ?_⟩
  refine List.forall_mem_cons.mpr ⟨s_callV (pc := 15) X (idx := 102) (by decide +kernel) h_X4_isLaw rfl lk_RX4_102 ls_X4_isLaw lz_X4_isLaw li_RX4 lc_X4_isLaw hv_X4_isLaw ⟨Nat.le_trans hd_X4_isLaw hR.1, Nat.le_trans (by have := hd_X4_isLaw; omega) hR.2⟩ hcs, ?_⟩
  refine List.forall_mem_cons.mpr ⟨s_ne0 (pc := 18) X (off := 5) (by decide +kernel) (by decide), ?_⟩
  refine List.forall_mem_cons.mpr ⟨s_iconst (pc := 21) X (n := 0) (by decide +kernel) (by decide), ?_⟩
  refine List.forall_mem_cons.mpr ⟨s_retZ (pc := 22) (by decide +kernel), ?_⟩
  refine List.forall_mem_cons.mpr ⟨s_aload_n (pc := 23) X (i := 0) (by decide +kernel) rfl, ?_⟩
  refine List.forall_mem_cons.mpr ⟨s_callV (pc := 24) X (idx := 44) (by decide +kernel) h_X4_remember rfl lk_RX4_44 ls_X4_remember lz_X4_remember li_RX4 lc_X4_remember hv_X4_remember ⟨Nat.le_trans hd_X4_remember hR.1, Nat.le_trans (by have := hd_X4_remember; omega) hR.2⟩ hcs, ?_⟩
  refine List.forall_mem_cons.mpr ⟨s_aload_n (pc := 27) X (i := 0) (by decide +kernel) rfl, ?_⟩
  refine List.forall_mem_cons.mpr ⟨s_getR (pc := 28) X (idx := 10) (by decide +kernel) inTX4 rfl (by decide) lk_RX4_10 rfl, ?_⟩
  refine List.forall_mem_cons.mpr ⟨s_getR (pc := 31) X (idx := 156) (by decide +kernel) inTX2 rfl (by decide) lk_RX4_156 rfl, ?_⟩
  refine List.forall_mem_cons.mpr ⟨s_iload_n (pc := 34) X (i := 1) (by decide +kernel) rfl, ?_⟩
  refine List.forall_mem_cons.mpr ⟨s_iload_n (pc := 35) X (i := 2) (by decide +kernel) rfl, ?_⟩
  refine List.forall_mem_cons.mpr ⟨s_iast (pc := 36) X (by decide +kernel), ?_⟩
  refine List.forall_mem_cons.mpr ⟨s_iconst (pc := 37) X (n := 1) (by decide +kernel) (by decide), ?_⟩
  refine List.forall_mem_cons.mpr ⟨s_retZ (pc := 38) (by decide +kernel), ?_⟩
  exact fun _ h => absurd h List.not_mem_nil
def T_X4_told (E : Ex) (env : Nat → Mf) : List (Nat × Stq) := [(0, o_il 1 1),
  (1, o_lt0 21 4),
  (4, o_il 5 1),
  (5, o_ic 6 (4)),
  (6, o_ge 21 9),
  (9, o_al 10 0),
  (10, o_gR SH 13 4 0),
  (13, o_gR SH 16 2 5),
  (16, o_il 17 1),
  (17, o_ia SH E 18),
  (18, o_goto 22),
  (21, o_ic 22 (-1)),
  (22, o_ret)]
set_option maxRecDepth 100000 in
set_option maxHeartbeats 4000000 in
theorem ts_X4_told {p : Program} {l : Launch} {e : Env} {R : Room} {s : State} {m : MethodId} {args : Array Value} {below : List Frame} {meth : Method} {c : Code} {cells slots : Nat} {Q : State → Prop} {D : va_G} {C : CI3} {A : Nat → Prop} {ad : Nat → Nat} {E : Ex} {env : Nat → Mf} {d : Nat} (X : Cx p R s m args c cX4_told 2 RX4 D C A ad SH E) (hR : d ≤ R.frames ∧ 100 * d ≤ R.locals) (hcs : cells ≤ R.cells ∧ slots ≤ R.slots) : ∀ q ∈ T_X4_told E env, SS p l e R s m args below meth c cells slots Q D C A ad SH 2 cX4_told (some .int) q.1 q.2 := by
  unfold T_X4_told
  refine List.forall_mem_cons.mpr ⟨s_iload_n (pc := 0) X (i := 1) (by decide +kernel) rfl, ?_⟩
  refine List.forall_mem_cons.mpr ⟨s_lt0 (pc := 1) X (off := 20) (by decide +kernel) (by decide), ?_⟩
  refine List.forall_mem_cons.mpr ⟨s_iload_n (pc := 4) X (i := 1) (by decide +kernel) rfl, ?_⟩
  refine List.forall_mem_cons.mpr ⟨s_iconst (pc := 5) X (n := 4) (by decide +kernel) (by decide), ?_⟩
  refine List.forall_mem_cons.mpr ⟨s_ge (pc := 6) X (off := 15) (by decide +kernel) (by decide), ?_⟩
  refine List.forall_mem_cons.mpr ⟨s_aload_n (pc := 9) X (i := 0) (by decide +kernel) rfl, ?_⟩
  refine List.forall_mem_cons.mpr ⟨s_getR (pc := 10) X (idx := 10) (by decide +kernel) inTX4 rfl (by decide) lk_RX4_10 rfl, ?_⟩
  refine List.forall_mem_cons.mpr ⟨s_getR (pc := 13) X (idx := 156) (by decide +kernel) inTX2 rfl (by decide) lk_RX4_156 rfl, ?_⟩
  refine List.forall_mem_cons.mpr ⟨s_iload_n (pc := 16) X (i := 1) (by decide +kernel) rfl, ?_⟩
  refine List.forall_mem_cons.mpr ⟨s_iald (pc := 17) X (by decide +kernel), ?_⟩
  refine List.forall_mem_cons.mpr ⟨s_goto (pc := 18) X (off := 4) (by decide +kernel) (by decide), ?_⟩
  refine List.forall_mem_cons.mpr ⟨s_iconst (pc := 21) X (n := -1) (by decide +kernel) (by decide), ?_⟩
  refine List.forall_mem_cons.mpr ⟨s_ret (pc := 22) rfl (by decide +kernel), ?_⟩
  exact fun _ h => absurd h List.not_mem_nil
def T_X4_mend (E : Ex) (env : Nat → Mf) : List (Nat × Stq) := [(0, o_il 1 1),
  (1, o_lt0 9 4),
  (4, o_il 5 1),
  (5, o_ic 6 (2)),
  (6, o_le 11 9),
  (9, o_ic 10 (-1)),
  (10, o_ret),
  (11, o_al 12 0),
  (12, o_gI SH 15 4 5),
  (15, o_ne0 34 18),
  (18, o_al 19 0),
  (19, o_gR SH 22 4 3),
  (22, o_al 23 0),
  (23, o_gR SH 26 4 0),
  (26, o_callV SH env 29 2 1 1),
  (29, o_al 30 0),
  (30, o_ic 31 (1)),
  (31, o_pZ SH 34 4 5),
  (34, o_il 35 1),
  (35, o_sw 76 [(0, 60), (1, 68)]),
  (60, o_al 61 0),
  (61, o_gR SH 64 4 3),
  (64, o_callV SH env 67 3 0 1),
  (67, o_ret),
  (68, o_al 69 0),
  (69, o_gR SH 72 4 3),
  (72, o_callV SH env 75 4 0 1),
  (75, o_ret),
  (76, o_al 77 0),
  (77, o_gR SH 80 4 3),
  (80, o_gI SH 83 1 2),
  (83, o_ret)]
set_option maxRecDepth 100000 in
set_option maxHeartbeats 4000000 in
theorem ts_X4_mend {p : Program} {l : Launch} {e : Env} {R : Room} {s : State} {m : MethodId} {args : Array Value} {below : List Frame} {meth : Method} {c : Code} {cells slots : Nat} {Q : State → Prop} {D : va_G} {C : CI3} {A : Nat → Prop} {ad : Nat → Nat} {E : Ex} {env : Nat → Mf} {d : Nat} (X : Cx p R s m args c cX4_mend 2 RX4 D C A ad SH E) (hR : d ≤ R.frames ∧ 100 * d ≤ R.locals) (hcs : cells ≤ R.cells ∧ slots ≤ R.slots) {d_X1_seek : Nat} (h_X1_seek : CM l SH E yX1_seek cX1_seek 4 (none) d_X1_seek (env 2)) (hd_X1_seek : d_X1_seek + 1 ≤ d) {d_X1_cost : Nat} (h_X1_cost : CM l SH E yX1_cost cX1_cost 1 (some .int) d_X1_cost (env 3)) (hd_X1_cost : d_X1_cost + 1 ≤ d) {d_X1_slots : Nat} (h_X1_slots : CM l SH E yX1_slots cX1_slots 1 (some .int) d_X1_slots (env 4)) (hd_X1_slots : d_X1_slots + 1 ≤ d) : ∀ q ∈ T_X4_mend E env, SS p l e R s m args below meth c cells slots Q D C A ad SH 2 cX4_mend (some .int) q.1 q.2 := by
  unfold T_X4_mend
  refine List.forall_mem_cons.mpr ⟨s_iload_n (pc := 0) X (i := 1) (by decide +kernel) rfl, ?_⟩
  refine List.forall_mem_cons.mpr ⟨s_lt0 (pc := 1) X (off := 8) (by decide +kernel) (by decide), ?_⟩
  refine List.forall_mem_cons.mpr ⟨s_iload_n (pc := 4) X (i := 1) (by decide +kernel) rfl, ?_⟩
  refine List.forall_mem_cons.mpr ⟨s_iconst (pc := 5) X (n := 2) (by decide +kernel) (by decide), ?_⟩
  refine List.forall_mem_cons.mpr ⟨s_le (pc := 6) X (off := 5) (by decide +kernel) (by decide), ?_⟩
  refine List.forall_mem_cons.mpr ⟨s_iconst (pc := 9) X (n := -1) (by decide +kernel) (by decide), ?_⟩
  refine List.forall_mem_cons.mpr ⟨s_ret (pc := 10) rfl (by decide +kernel), ?_⟩
  refine List.forall_mem_cons.mpr ⟨s_aload_n (pc := 11) X (i := 0) (by decide +kernel) rfl, ?_⟩
  refine List.forall_mem_cons.mpr ⟨s_getI (pc := 12) X (idx := 41) (by decide +kernel) inTX4 rfl (by decide) lk_RX4_41 rfl, ?_⟩
  refine List.forall_mem_cons.mpr ⟨s_ne0 (pc := 15) X (off := 19) (by decide +kernel) (by decide), ?_⟩
  refine List.forall_mem_cons.mpr ⟨s_aload_n (pc := 18) X (i := 0) (by decide +kernel) rfl, ?_⟩
  refine List.forall_mem_cons.mpr ⟨s_getR (pc := 19) X (idx := 33) (by decide +kernel) inTX4 rfl (by decide) lk_RX4_33 rfl, ?_⟩
  refine List.forall_mem_cons.mpr ⟨s_aload_n (pc := 22) X (i := 0) (by decide +kernel) rfl, ?_⟩
  refine List.forall_mem_cons.mpr ⟨s_getR (pc := 23) X (idx := 10) (by decide +kernel) inTX4 rfl (by decide) lk_RX4_10 rfl, ?_⟩
  refine List.forall_mem_cons.mpr ⟨s_callV (pc := 26) X (idx := 159) (by decide +kernel) h_X1_seek rfl lk_RX4_159 ls_X1_seek lz_X1_seek li_RX1 lc_X1_seek hv_X1_seek ⟨Nat.le_trans hd_X1_seek hR.1, Nat.le_trans (by have := hd_X1_seek; omega) hR.2⟩ hcs, ?_⟩
  refine List.forall_mem_cons.mpr ⟨s_aload_n (pc := 29) X (i := 0) (by decide +kernel) rfl, ?_⟩
  refine List.forall_mem_cons.mpr ⟨s_iconst (pc := 30) X (n := 1) (by decide +kernel) (by decide), ?_⟩
  refine List.forall_mem_cons.mpr ⟨s_putZ (pc := 31) X (idx := 41) (by decide +kernel) inTX4 tyX4 tyX4_ok nmX4 rfl (by decide) lk_RX4_41 rfl rfl (by decide +kernel), ?_⟩
  refine List.forall_mem_cons.mpr ⟨s_iload_n (pc := 34) X (i := 1) (by decide +kernel) rfl, ?_⟩
  refine List.forall_mem_cons.mpr ⟨s_lookup (pc := 35) X (df := 41) (prs := #[(0, 25), (1, 33)]) (len := 25) (by decide +kernel) (by decide +kernel) (by decide) (by decide +kernel) (fun x hx => by rw [lv_osw (k := 0) (hx (0, 60) (by simp)) (by decide), lv_osw (k := 1) (hx (1, 68) (by simp)) (by decide)]; rfl), ?_⟩
  refine List.forall_mem_cons.mpr ⟨s_aload_n (pc := 60) X (i := 0) (by decide +kernel) rfl, ?_⟩
  refine List.forall_mem_cons.mpr ⟨s_getR (pc := 61) X (idx := 33) (by decide +kernel) inTX4 rfl (by decide) lk_RX4_33 rfl, ?_⟩
  refine List.forall_mem_cons.mpr ⟨s_callV (pc := 64) X (idx := 163) (by decide +kernel) h_X1_cost rfl lk_RX4_163 ls_X1_cost lz_X1_cost li_RX1 lc_X1_cost hv_X1_cost ⟨Nat.le_trans hd_X1_cost hR.1, Nat.le_trans (by have := hd_X1_cost; omega) hR.2⟩ hcs, ?_⟩
  refine List.forall_mem_cons.mpr ⟨s_ret (pc := 67) rfl (by decide +kernel), ?_⟩
  refine List.forall_mem_cons.mpr ⟨s_aload_n (pc := 68) X (i := 0) (by decide +kernel) rfl, ?_⟩
  refine List.forall_mem_cons.mpr ⟨s_getR (pc := 69) X (idx := 33) (by decide +kernel) inTX4 rfl (by decide) lk_RX4_33 rfl, ?_⟩
  refine List.forall_mem_cons.mpr ⟨s_callV (pc := 72) X (idx := 166) (by decide +kernel) h_X1_slots rfl lk_RX4_166 ls_X1_slots lz_X1_slots li_RX1 lc_X1_slots hv_X1_slots ⟨Nat.le_trans hd_X1_slots hR.1, Nat.le_trans (by have := hd_X1_slots; omega) hR.2⟩ hcs, ?_⟩
  refine List.forall_mem_cons.mpr ⟨s_ret (pc := 75) rfl (by decide +kernel), ?_⟩
  refine List.forall_mem_cons.mpr ⟨s_aload_n (pc := 76) X (i := 0) (by decide +kernel) rfl, ?_⟩
  refine List.forall_mem_cons.mpr ⟨s_getR (pc := 77) X (idx := 33) (by decide +kernel) inTX4 rfl (by decide) lk_RX4_33 rfl, ?_⟩
  refine List.forall_mem_cons.mpr ⟨s_getI (pc := 80) X (idx := 169) (by decide +kernel) inTX1 rfl (by decide) lk_RX4_169 rfl, ?_⟩
  refine List.forall_mem_cons.mpr ⟨s_ret (pc := 83) rfl (by decide +kernel), ?_⟩
  exact fun _ h => absurd h List.not_mem_nil
def T_X4_undo (E : Ex) (env : Nat → Mf) : List (Nat × Stq) := [(0, o_al 1 0),
  (1, o_gR SH 4 4 1),
  (4, o_al 5 0),
  (5, o_gR SH 8 4 0),
  (8, o_callV SH env 11 1 1 0),
  (11, o_ne0 16 14),
  (14, o_ic 15 (0)),
  (15, o_retZ),
  (16, o_al 17 0),
  (17, o_ic 18 (0)),
  (18, o_pZ SH 21 4 4),
  (21, o_al 22 0),
  (22, o_ic 23 (0)),
  (23, o_pZ SH 26 4 5),
  (26, o_ic 27 (1)),
  (27, o_retZ)]
set_option maxRecDepth 100000 in
set_option maxHeartbeats 4000000 in
theorem ts_X4_undo {p : Program} {l : Launch} {e : Env} {R : Room} {s : State} {m : MethodId} {args : Array Value} {below : List Frame} {meth : Method} {c : Code} {cells slots : Nat} {Q : State → Prop} {D : va_G} {C : CI3} {A : Nat → Prop} {ad : Nat → Nat} {E : Ex} {env : Nat → Mf} {d : Nat} (X : Cx p R s m args c cX4_undo 1 RX4 D C A ad SH E) (hR : d ≤ R.frames ∧ 100 * d ≤ R.locals) (hcs : cells ≤ R.cells ∧ slots ≤ R.slots) {d_X0_giveBack : Nat} (h_X0_giveBack : CM l SH E yX0_giveBack cX0_giveBack 2 (some .boolean) d_X0_giveBack (env 1)) (hd_X0_giveBack : d_X0_giveBack + 1 ≤ d) : ∀ q ∈ T_X4_undo E env, SS p l e R s m args below meth c cells slots Q D C A ad SH 1 cX4_undo (some .boolean) q.1 q.2 := by
  unfold T_X4_undo
  refine List.forall_mem_cons.mpr ⟨s_aload_n (pc := 0) X (i := 0) (by decide +kernel) rfl, ?_⟩
  refine List.forall_mem_cons.mpr ⟨s_getR (pc := 1) X (idx := 19) (by decide +kernel) inTX4 rfl (by decide) lk_RX4_19 rfl, ?_⟩
  refine List.forall_mem_cons.mpr ⟨s_aload_n (pc := 4) X (i := 0) (by decide +kernel) rfl, ?_⟩
  refine List.forall_mem_cons.mpr ⟨s_getR (pc := 5) X (idx := 10) (by decide +kernel) inTX4 rfl (by decide) lk_RX4_10 rfl, ?_⟩
  refine List.forall_mem_cons.mpr ⟨s_callV (pc := 8) X (idx := 172) (by decide +kernel) h_X0_giveBack rfl lk_RX4_172 ls_X0_giveBack lz_X0_giveBack li_RX0 lc_X0_giveBack hv_X0_giveBack ⟨Nat.le_trans hd_X0_giveBack hR.1, Nat.le_trans (by have := hd_X0_giveBack; omega) hR.2⟩ hcs, ?_⟩
  refine List.forall_mem_cons.mpr ⟨s_ne0 (pc := 11) X (off := 5) (by decide +kernel) (by decide), ?_⟩
  refine List.forall_mem_cons.mpr ⟨s_iconst (pc := 14) X (n := 0) (by decide +kernel) (by decide), ?_⟩
  refine List.forall_mem_cons.mpr ⟨s_retZ (pc := 15) (by decide +kernel), ?_⟩
  refine List.forall_mem_cons.mpr ⟨s_aload_n (pc := 16) X (i := 0) (by decide +kernel) rfl, ?_⟩
  refine List.forall_mem_cons.mpr ⟨s_iconst (pc := 17) X (n := 0) (by decide +kernel) (by decide), ?_⟩
  refine List.forall_mem_cons.mpr ⟨s_putZ (pc := 18) X (idx := 37) (by decide +kernel) inTX4 tyX4 tyX4_ok nmX4 rfl (by decide) lk_RX4_37 rfl rfl (by decide +kernel), ?_⟩
  refine List.forall_mem_cons.mpr ⟨s_aload_n (pc := 21) X (i := 0) (by decide +kernel) rfl, ?_⟩
  refine List.forall_mem_cons.mpr ⟨s_iconst (pc := 22) X (n := 0) (by decide +kernel) (by decide), ?_⟩
  refine List.forall_mem_cons.mpr ⟨s_putZ (pc := 23) X (idx := 41) (by decide +kernel) inTX4 tyX4 tyX4_ok nmX4 rfl (by decide) lk_RX4_41 rfl rfl (by decide +kernel), ?_⟩
  refine List.forall_mem_cons.mpr ⟨s_iconst (pc := 26) X (n := 1) (by decide +kernel) (by decide), ?_⟩
  refine List.forall_mem_cons.mpr ⟨s_retZ (pc := 27) (by decide +kernel), ?_⟩
  exact fun _ h => absurd h List.not_mem_nil
def T_X4_remember (E : Ex) (env : Nat → Mf) : List (Nat × Stq) := [(0, o_al 1 0),
  (1, o_gR SH 4 4 1),
  (4, o_al 5 0),
  (5, o_gR SH 8 4 0),
  (8, o_callV SH env 11 0 1 0),
  (11, o_al 12 0),
  (12, o_ic 13 (0)),
  (13, o_pZ SH 16 4 4),
  (16, o_al 17 0),
  (17, o_ic 18 (0)),
  (18, o_pZ SH 21 4 5),
  (21, o_retV)]
set_option maxRecDepth 100000 in
set_option maxHeartbeats 4000000 in
theorem ts_X4_remember {p : Program} {l : Launch} {e : Env} {R : Room} {s : State} {m : MethodId} {args : Array Value} {below : List Frame} {meth : Method} {c : Code} {cells slots : Nat} {Q : State → Prop} {D : va_G} {C : CI3} {A : Nat → Prop} {ad : Nat → Nat} {E : Ex} {env : Nat → Mf} {d : Nat} (X : Cx p R s m args c cX4_remember 1 RX4 D C A ad SH E) (hR : d ≤ R.frames ∧ 100 * d ≤ R.locals) (hcs : cells ≤ R.cells ∧ slots ≤ R.slots) {d_X0_keep : Nat} (h_X0_keep : CM l SH E yX0_keep cX0_keep 2 (none) d_X0_keep (env 0)) (hd_X0_keep : d_X0_keep + 1 ≤ d) : ∀ q ∈ T_X4_remember E env, SS p l e R s m args below meth c cells slots Q D C A ad SH 1 cX4_remember (none) q.1 q.2 := by
  unfold T_X4_remember
  refine List.forall_mem_cons.mpr ⟨s_aload_n (pc := 0) X (i := 0) (by decide +kernel) rfl, ?_⟩
  refine List.forall_mem_cons.mpr ⟨s_getR (pc := 1) X (idx := 19) (by decide +kernel) inTX4 rfl (by decide) lk_RX4_19 rfl, ?_⟩
  refine List.forall_mem_cons.mpr ⟨s_aload_n (pc := 4) X (i := 0) (by decide +kernel) rfl, ?_⟩
  refine List.forall_mem_cons.mpr ⟨s_getR (pc := 5) X (idx := 10) (by decide +kernel) inTX4 rfl (by decide) lk_RX4_10 rfl, ?_⟩
  refine List.forall_mem_cons.mpr ⟨s_callV (pc := 8) X (idx := 176) (by decide +kernel) h_X0_keep rfl lk_RX4_176 ls_X0_keep lz_X0_keep li_RX0 lc_X0_keep hv_X0_keep ⟨Nat.le_trans hd_X0_keep hR.1, Nat.le_trans (by have := hd_X0_keep; omega) hR.2⟩ hcs, ?_⟩
  refine List.forall_mem_cons.mpr ⟨s_aload_n (pc := 11) X (i := 0) (by decide +kernel) rfl, ?_⟩
  refine List.forall_mem_cons.mpr ⟨s_iconst (pc := 12) X (n := 0) (by decide +kernel) (by decide), ?_⟩
  refine List.forall_mem_cons.mpr ⟨s_putZ (pc := 13) X (idx := 37) (by decide +kernel) inTX4 tyX4 tyX4_ok nmX4 rfl (by decide) lk_RX4_37 rfl rfl (by decide +kernel), ?_⟩
  refine List.forall_mem_cons.mpr ⟨s_aload_n (pc := 16) X (i := 0) (by decide +kernel) rfl, ?_⟩
  refine List.forall_mem_cons.mpr ⟨s_iconst (pc := 17) X (n := 0) (by decide +kernel) (by decide), ?_⟩
  refine List.forall_mem_cons.mpr ⟨s_putZ (pc := 18) X (idx := 41) (by decide +kernel) inTX4 tyX4 tyX4_ok nmX4 rfl (by decide) lk_RX4_41 rfl rfl (by decide +kernel), ?_⟩
  refine List.forall_mem_cons.mpr ⟨s_retV (pc := 21) (by decide +kernel), ?_⟩
  exact fun _ h => absurd h List.not_mem_nil
def T_X4_count (E : Ex) (env : Nat → Mf) : List (Nat × Stq) := [(0, o_al 1 0),
  (1, o_gI SH 4 4 4),
  (4, o_ne0 23 7),
  (7, o_al 8 0),
  (8, o_gR SH 11 4 2),
  (11, o_al 12 0),
  (12, o_gR SH 15 4 0),
  (15, o_callV SH env 18 21 1 3),
  (18, o_al 19 0),
  (19, o_ic 20 (1)),
  (20, o_pZ SH 23 4 4),
  (23, o_retV)]
set_option maxRecDepth 100000 in
set_option maxHeartbeats 4000000 in
theorem ts_X4_count {p : Program} {l : Launch} {e : Env} {R : Room} {s : State} {m : MethodId} {args : Array Value} {below : List Frame} {meth : Method} {c : Code} {cells slots : Nat} {Q : State → Prop} {D : va_G} {C : CI3} {A : Nat → Prop} {ad : Nat → Nat} {E : Ex} {env : Nat → Mf} {d : Nat} (X : Cx p R s m args c cX4_count 1 RX4 D C A ad SH E) (hR : d ≤ R.frames ∧ 100 * d ≤ R.locals) (hcs : cells ≤ R.cells ∧ slots ≤ R.slots) {d_X3_recount : Nat} (h_X3_recount : CM l SH E yX3_recount cX3_recount 4 (none) d_X3_recount (env 21)) (hd_X3_recount : d_X3_recount + 1 ≤ d) : ∀ q ∈ T_X4_count E env, SS p l e R s m args below meth c cells slots Q D C A ad SH 1 cX4_count (none) q.1 q.2 := by
  unfold T_X4_count
  refine List.forall_mem_cons.mpr ⟨s_aload_n (pc := 0) X (i := 0) (by decide +kernel) rfl, ?_⟩
  refine List.forall_mem_cons.mpr ⟨s_getI (pc := 1) X (idx := 37) (by decide +kernel) inTX4 rfl (by decide) lk_RX4_37 rfl, ?_⟩
  refine List.forall_mem_cons.mpr ⟨s_ne0 (pc := 4) X (off := 19) (by decide +kernel) (by decide), ?_⟩
  refine List.forall_mem_cons.mpr ⟨s_aload_n (pc := 7) X (i := 0) (by decide +kernel) rfl, ?_⟩
  refine List.forall_mem_cons.mpr ⟨s_getR (pc := 8) X (idx := 26) (by decide +kernel) inTX4 rfl (by decide) lk_RX4_26 rfl, ?_⟩
  refine List.forall_mem_cons.mpr ⟨s_aload_n (pc := 11) X (i := 0) (by decide +kernel) rfl, ?_⟩
  refine List.forall_mem_cons.mpr ⟨s_getR (pc := 12) X (idx := 10) (by decide +kernel) inTX4 rfl (by decide) lk_RX4_10 rfl, ?_⟩
  refine List.forall_mem_cons.mpr ⟨s_callV (pc := 15) X (idx := 179) (by decide +kernel) h_X3_recount rfl lk_RX4_179 ls_X3_recount lz_X3_recount li_RX3 lc_X3_recount hv_X3_recount ⟨Nat.le_trans hd_X3_recount hR.1, Nat.le_trans (by have := hd_X3_recount; omega) hR.2⟩ hcs, ?_⟩
  refine List.forall_mem_cons.mpr ⟨s_aload_n (pc := 18) X (i := 0) (by decide +kernel) rfl, ?_⟩
  refine List.forall_mem_cons.mpr ⟨s_iconst (pc := 19) X (n := 1) (by decide +kernel) (by decide), ?_⟩
  refine List.forall_mem_cons.mpr ⟨s_putZ (pc := 20) X (idx := 37) (by decide +kernel) inTX4 tyX4 tyX4_ok nmX4 rfl (by decide) lk_RX4_37 rfl rfl (by decide +kernel), ?_⟩
  refine List.forall_mem_cons.mpr ⟨s_retV (pc := 23) (by decide +kernel), ?_⟩
  exact fun _ h => absurd h List.not_mem_nil
def T_X4_isLaw (E : Ex) (env : Nat → Mf) : List (Nat × Stq) := [(0, o_il 1 1),
  (1, o_le0 23 4),
  (4, o_il 5 1),
  (5, o_gs 8),
  (8, o_al 9 0),
  (9, o_gR SH 12 4 0),
  (12, o_gI SH 15 2 0),
  (15, o_ia SH E 16),
  (16, o_ge 23 19),
  (19, o_ic 20 (1)),
  (20, o_goto 24),
  (23, o_ic 24 (0)),
  (24, o_retZ)]
set_option maxRecDepth 100000 in
set_option maxHeartbeats 4000000 in
theorem ts_X4_isLaw {p : Program} {l : Launch} {e : Env} {R : Room} {s : State} {m : MethodId} {args : Array Value} {below : List Frame} {meth : Method} {c : Code} {cells slots : Nat} {Q : State → Prop} {D : va_G} {C : CI3} {A : Nat → Prop} {ad : Nat → Nat} {E : Ex} {env : Nat → Mf} {d : Nat} (X : Cx p R s m args c cX4_isLaw 2 RX4 D C A ad SH E) (hR : d ≤ R.frames ∧ 100 * d ≤ R.locals) (hcs : cells ≤ R.cells ∧ slots ≤ R.slots) : ∀ q ∈ T_X4_isLaw E env, SS p l e R s m args below meth c cells slots Q D C A ad SH 2 cX4_isLaw (some .boolean) q.1 q.2 := by
  unfold T_X4_isLaw
  refine List.forall_mem_cons.mpr ⟨s_iload_n (pc := 0) X (i := 1) (by decide +kernel) rfl, ?_⟩
  refine List.forall_mem_cons.mpr ⟨s_le0 (pc := 1) X (off := 22) (by decide +kernel) (by decide), ?_⟩
  refine List.forall_mem_cons.mpr ⟨s_iload_n (pc := 4) X (i := 1) (by decide +kernel) rfl, ?_⟩
  refine List.forall_mem_cons.mpr ⟨s_gets (pc := 5) X (idx := 132) (by decide +kernel) lk_RX4_132, ?_⟩
  refine List.forall_mem_cons.mpr ⟨s_aload_n (pc := 8) X (i := 0) (by decide +kernel) rfl, ?_⟩
  refine List.forall_mem_cons.mpr ⟨s_getR (pc := 9) X (idx := 10) (by decide +kernel) inTX4 rfl (by decide) lk_RX4_10 rfl, ?_⟩
  refine List.forall_mem_cons.mpr ⟨s_getI (pc := 12) X (idx := 109) (by decide +kernel) inTX2 rfl (by decide) lk_RX4_109 rfl, ?_⟩
  refine List.forall_mem_cons.mpr ⟨s_iald (pc := 15) X (by decide +kernel), ?_⟩
  refine List.forall_mem_cons.mpr ⟨s_ge (pc := 16) X (off := 7) (by decide +kernel) (by decide), ?_⟩
  refine List.forall_mem_cons.mpr ⟨s_iconst (pc := 19) X (n := 1) (by decide +kernel) (by decide), ?_⟩
  refine List.forall_mem_cons.mpr ⟨s_goto (pc := 20) X (off := 4) (by decide +kernel) (by decide), ?_⟩
  refine List.forall_mem_cons.mpr ⟨s_iconst (pc := 23) X (n := 0) (by decide +kernel) (by decide), ?_⟩
  refine List.forall_mem_cons.mpr ⟨s_retZ (pc := 24) (by decide +kernel), ?_⟩
  exact fun _ h => absurd h List.not_mem_nil
def T_X4_isSlot (E : Ex) (env : Nat → Mf) : List (Nat × Stq) := [(0, o_il 1 0),
  (1, o_lt0 14 4),
  (4, o_il 5 0),
  (5, o_ic 7 (16)),
  (7, o_ge 14 10),
  (10, o_ic 11 (1)),
  (11, o_goto 15),
  (14, o_ic 15 (0)),
  (15, o_retZ)]
set_option maxRecDepth 100000 in
set_option maxHeartbeats 4000000 in
theorem ts_X4_isSlot {p : Program} {l : Launch} {e : Env} {R : Room} {s : State} {m : MethodId} {args : Array Value} {below : List Frame} {meth : Method} {c : Code} {cells slots : Nat} {Q : State → Prop} {D : va_G} {C : CI3} {A : Nat → Prop} {ad : Nat → Nat} {E : Ex} {env : Nat → Mf} {d : Nat} (X : Cx p R s m args c cX4_isSlot 1 RX4 D C A ad SH E) (hR : d ≤ R.frames ∧ 100 * d ≤ R.locals) (hcs : cells ≤ R.cells ∧ slots ≤ R.slots) : ∀ q ∈ T_X4_isSlot E env, SS p l e R s m args below meth c cells slots Q D C A ad SH 1 cX4_isSlot (some .boolean) q.1 q.2 := by
  unfold T_X4_isSlot
  refine List.forall_mem_cons.mpr ⟨s_iload_n (pc := 0) X (i := 0) (by decide +kernel) rfl, ?_⟩
  refine List.forall_mem_cons.mpr ⟨s_lt0 (pc := 1) X (off := 13) (by decide +kernel) (by decide), ?_⟩
  refine List.forall_mem_cons.mpr ⟨s_iload_n (pc := 4) X (i := 0) (by decide +kernel) rfl, ?_⟩
  refine List.forall_mem_cons.mpr ⟨s_bipush (pc := 5) X (n := 16) (by decide +kernel) (by decide), ?_⟩
  refine List.forall_mem_cons.mpr ⟨s_ge (pc := 7) X (off := 7) (by decide +kernel) (by decide), ?_⟩
  refine List.forall_mem_cons.mpr ⟨s_iconst (pc := 10) X (n := 1) (by decide +kernel) (by decide), ?_⟩
  refine List.forall_mem_cons.mpr ⟨s_goto (pc := 11) X (off := 4) (by decide +kernel) (by decide), ?_⟩
  refine List.forall_mem_cons.mpr ⟨s_iconst (pc := 14) X (n := 0) (by decide +kernel) (by decide), ?_⟩
  refine List.forall_mem_cons.mpr ⟨s_retZ (pc := 15) (by decide +kernel), ?_⟩
  exact fun _ h => absurd h List.not_mem_nil
def T_X4_fits (E : Ex) (env : Nat → Mf) : List (Nat × Stq) := [(0, o_il 1 1),
  (1, o_ic 3 (-99)),
  (3, o_lt 12 6),
  (6, o_il 7 1),
  (7, o_ic 9 (99)),
  (9, o_le 23 12),
  (12, o_il 13 0),
  (13, o_ic 14 (4)),
  (14, o_ne 27 17),
  (17, o_il 18 1),
  (18, o_ic 20 (100)),
  (20, o_ne 27 23),
  (23, o_ic 24 (1)),
  (24, o_goto 28),
  (27, o_ic 28 (0)),
  (28, o_retZ)]
set_option maxRecDepth 100000 in
set_option maxHeartbeats 4000000 in
theorem ts_X4_fits {p : Program} {l : Launch} {e : Env} {R : Room} {s : State} {m : MethodId} {args : Array Value} {below : List Frame} {meth : Method} {c : Code} {cells slots : Nat} {Q : State → Prop} {D : va_G} {C : CI3} {A : Nat → Prop} {ad : Nat → Nat} {E : Ex} {env : Nat → Mf} {d : Nat} (X : Cx p R s m args c cX4_fits 2 RX4 D C A ad SH E) (hR : d ≤ R.frames ∧ 100 * d ≤ R.locals) (hcs : cells ≤ R.cells ∧ slots ≤ R.slots) : ∀ q ∈ T_X4_fits E env, SS p l e R s m args below meth c cells slots Q D C A ad SH 2 cX4_fits (some .boolean) q.1 q.2 := by
  unfold T_X4_fits
  refine List.forall_mem_cons.mpr ⟨s_iload_n (pc := 0) X (i := 1) (by decide +kernel) rfl, ?_⟩
  refine List.forall_mem_cons.mpr ⟨s_bipush (pc := 1) X (n := -99) (by decide +kernel) (by decide), ?_⟩
  refine List.forall_mem_cons.mpr ⟨s_lt (pc := 3) X (off := 9) (by decide +kernel) (by decide), ?_⟩
  refine List.forall_mem_cons.mpr ⟨s_iload_n (pc := 6) X (i := 1) (by decide +kernel) rfl, ?_⟩
  refine List.forall_mem_cons.mpr ⟨s_bipush (pc := 7) X (n := 99) (by decide +kernel) (by decide), ?_⟩
  refine List.forall_mem_cons.mpr ⟨s_le (pc := 9) X (off := 14) (by decide +kernel) (by decide), ?_⟩
  refine List.forall_mem_cons.mpr ⟨s_iload_n (pc := 12) X (i := 0) (by decide +kernel) rfl, ?_⟩
  refine List.forall_mem_cons.mpr ⟨s_iconst (pc := 13) X (n := 4) (by decide +kernel) (by decide), ?_⟩
  refine List.forall_mem_cons.mpr ⟨s_ne (pc := 14) X (off := 13) (by decide +kernel) (by decide), ?_⟩
  refine List.forall_mem_cons.mpr ⟨s_iload_n (pc := 17) X (i := 1) (by decide +kernel) rfl, ?_⟩
  refine List.forall_mem_cons.mpr ⟨s_bipush (pc := 18) X (n := 100) (by decide +kernel) (by decide), ?_⟩
  refine List.forall_mem_cons.mpr ⟨s_ne (pc := 20) X (off := 7) (by decide +kernel) (by decide), ?_⟩
  refine List.forall_mem_cons.mpr ⟨s_iconst (pc := 23) X (n := 1) (by decide +kernel) (by decide), ?_⟩
  refine List.forall_mem_cons.mpr ⟨s_goto (pc := 24) X (off := 4) (by decide +kernel) (by decide), ?_⟩
  refine List.forall_mem_cons.mpr ⟨s_iconst (pc := 27) X (n := 0) (by decide +kernel) (by decide), ?_⟩
  refine List.forall_mem_cons.mpr ⟨s_retZ (pc := 28) (by decide +kernel), ?_⟩
  exact fun _ h => absurd h List.not_mem_nil
def T_X4_canSeek (E : Ex) (env : Nat → Mf) : List (Nat × Stq) := [(0, o_il 1 0),
  (1, o_lt0 24 4),
  (4, o_il 5 0),
  (5, o_ic 7 (120)),
  (7, o_gt 24 10),
  (10, o_il 11 1),
  (11, o_ic 12 (1)),
  (12, o_lt 24 15),
  (15, o_il 16 1),
  (16, o_ic 17 (4)),
  (17, o_gt 24 20),
  (20, o_ic 21 (1)),
  (21, o_goto 25),
  (24, o_ic 25 (0)),
  (25, o_retZ)]
set_option maxRecDepth 100000 in
set_option maxHeartbeats 4000000 in
theorem ts_X4_canSeek {p : Program} {l : Launch} {e : Env} {R : Room} {s : State} {m : MethodId} {args : Array Value} {below : List Frame} {meth : Method} {c : Code} {cells slots : Nat} {Q : State → Prop} {D : va_G} {C : CI3} {A : Nat → Prop} {ad : Nat → Nat} {E : Ex} {env : Nat → Mf} {d : Nat} (X : Cx p R s m args c cX4_canSeek 2 RX4 D C A ad SH E) (hR : d ≤ R.frames ∧ 100 * d ≤ R.locals) (hcs : cells ≤ R.cells ∧ slots ≤ R.slots) : ∀ q ∈ T_X4_canSeek E env, SS p l e R s m args below meth c cells slots Q D C A ad SH 2 cX4_canSeek (some .boolean) q.1 q.2 := by
  unfold T_X4_canSeek
  refine List.forall_mem_cons.mpr ⟨s_iload_n (pc := 0) X (i := 0) (by decide +kernel) rfl, ?_⟩
  refine List.forall_mem_cons.mpr ⟨s_lt0 (pc := 1) X (off := 23) (by decide +kernel) (by decide), ?_⟩
  refine List.forall_mem_cons.mpr ⟨s_iload_n (pc := 4) X (i := 0) (by decide +kernel) rfl, ?_⟩
  refine List.forall_mem_cons.mpr ⟨s_bipush (pc := 5) X (n := 120) (by decide +kernel) (by decide), ?_⟩
  refine List.forall_mem_cons.mpr ⟨s_gt (pc := 7) X (off := 17) (by decide +kernel) (by decide), ?_⟩
  refine List.forall_mem_cons.mpr ⟨s_iload_n (pc := 10) X (i := 1) (by decide +kernel) rfl, ?_⟩
  refine List.forall_mem_cons.mpr ⟨s_iconst (pc := 11) X (n := 1) (by decide +kernel) (by decide), ?_⟩
  refine List.forall_mem_cons.mpr ⟨s_lt (pc := 12) X (off := 12) (by decide +kernel) (by decide), ?_⟩
  refine List.forall_mem_cons.mpr ⟨s_iload_n (pc := 15) X (i := 1) (by decide +kernel) rfl, ?_⟩
  refine List.forall_mem_cons.mpr ⟨s_iconst (pc := 16) X (n := 4) (by decide +kernel) (by decide), ?_⟩
  refine List.forall_mem_cons.mpr ⟨s_gt (pc := 17) X (off := 7) (by decide +kernel) (by decide), ?_⟩
  refine List.forall_mem_cons.mpr ⟨s_iconst (pc := 20) X (n := 1) (by decide +kernel) (by decide), ?_⟩
  refine List.forall_mem_cons.mpr ⟨s_goto (pc := 21) X (off := 4) (by decide +kernel) (by decide), ?_⟩
  refine List.forall_mem_cons.mpr ⟨s_iconst (pc := 24) X (n := 0) (by decide +kernel) (by decide), ?_⟩
  refine List.forall_mem_cons.mpr ⟨s_retZ (pc := 25) (by decide +kernel), ?_⟩
  exact fun _ h => absurd h List.not_mem_nil
def T_X4_digitOf (E : Ex) (env : Nat → Mf) : List (Nat × Stq) := [(0, o_il 1 0),
  (1, o_gs 4),
  (4, o_il 5 1),
  (5, o_ia SH E 6),
  (6, o_div 7),
  (7, o_ic 8 (5)),
  (8, o_rem 9),
  (9, o_ret)]
set_option maxRecDepth 100000 in
set_option maxHeartbeats 4000000 in
theorem ts_X4_digitOf {p : Program} {l : Launch} {e : Env} {R : Room} {s : State} {m : MethodId} {args : Array Value} {below : List Frame} {meth : Method} {c : Code} {cells slots : Nat} {Q : State → Prop} {D : va_G} {C : CI3} {A : Nat → Prop} {ad : Nat → Nat} {E : Ex} {env : Nat → Mf} {d : Nat} (X : Cx p R s m args c cX4_digitOf 2 RX4 D C A ad SH E) (hR : d ≤ R.frames ∧ 100 * d ≤ R.locals) (hcs : cells ≤ R.cells ∧ slots ≤ R.slots) : ∀ q ∈ T_X4_digitOf E env, SS p l e R s m args below meth c cells slots Q D C A ad SH 2 cX4_digitOf (some .int) q.1 q.2 := by
  unfold T_X4_digitOf
  refine List.forall_mem_cons.mpr ⟨s_iload_n (pc := 0) X (i := 0) (by decide +kernel) rfl, ?_⟩
  refine List.forall_mem_cons.mpr ⟨s_gets (pc := 1) X (idx := 132) (by decide +kernel) lk_RX4_132, ?_⟩
  refine List.forall_mem_cons.mpr ⟨s_iload_n (pc := 4) X (i := 1) (by decide +kernel) rfl, ?_⟩
  refine List.forall_mem_cons.mpr ⟨s_iald (pc := 5) X (by decide +kernel), ?_⟩
  refine List.forall_mem_cons.mpr ⟨s_idiv (pc := 6) X (by decide +kernel), ?_⟩
  refine List.forall_mem_cons.mpr ⟨s_iconst (pc := 7) X (n := 5) (by decide +kernel) (by decide), ?_⟩
  refine List.forall_mem_cons.mpr ⟨s_irem (pc := 8) X (by decide +kernel), ?_⟩
  refine List.forall_mem_cons.mpr ⟨s_ret (pc := 9) rfl (by decide +kernel), ?_⟩
  exact fun _ h => absurd h List.not_mem_nil
def T_X4_columnsOf (E : Ex) (env : Nat → Mf) : List (Nat × Stq) := [(0, o_ic 1 (0)),
  (1, o_is 2 1),
  (2, o_ic 3 (0)),
  (3, o_is 4 2),
  (4, o_il 5 2),
  (5, o_ic 6 (4)),
  (6, o_ge 26 9),
  (9, o_il 10 0),
  (10, o_il 11 2),
  (11, o_call env 14 59 2),
  (14, o_eq0 20 17),
  (17, o_inc 20 1 (1)),
  (20, o_inc 23 2 (1)),
  (23, o_goto 4),
  (26, o_il 27 1),
  (27, o_ret)]
set_option maxRecDepth 100000 in
set_option maxHeartbeats 4000000 in
theorem ts_X4_columnsOf {p : Program} {l : Launch} {e : Env} {R : Room} {s : State} {m : MethodId} {args : Array Value} {below : List Frame} {meth : Method} {c : Code} {cells slots : Nat} {Q : State → Prop} {D : va_G} {C : CI3} {A : Nat → Prop} {ad : Nat → Nat} {E : Ex} {env : Nat → Mf} {d : Nat} (X : Cx p R s m args c cX4_columnsOf 3 RX4 D C A ad SH E) (hR : d ≤ R.frames ∧ 100 * d ≤ R.locals) (hcs : cells ≤ R.cells ∧ slots ≤ R.slots) {d_X4_digitOf : Nat} (h_X4_digitOf : CM l SH E yX4_digitOf cX4_digitOf 2 (some .int) d_X4_digitOf (env 59)) (hd_X4_digitOf : d_X4_digitOf + 1 ≤ d) : ∀ q ∈ T_X4_columnsOf E env, SS p l e R s m args below meth c cells slots Q D C A ad SH 3 cX4_columnsOf (some .int) q.1 q.2 := by
  unfold T_X4_columnsOf
  refine List.forall_mem_cons.mpr ⟨s_iconst (pc := 0) X (n := 0) (by decide +kernel) (by decide), ?_⟩
  refine List.forall_mem_cons.mpr ⟨s_istore_n (pc := 1) X (i := 1) (by decide +kernel) rfl (by decide), ?_⟩
  refine List.forall_mem_cons.mpr ⟨s_iconst (pc := 2) X (n := 0) (by decide +kernel) (by decide), ?_⟩
  refine List.forall_mem_cons.mpr ⟨s_istore_n (pc := 3) X (i := 2) (by decide +kernel) rfl (by decide), ?_⟩
  refine List.forall_mem_cons.mpr ⟨s_iload_n (pc := 4) X (i := 2) (by decide +kernel) rfl, ?_⟩
  refine List.forall_mem_cons.mpr ⟨s_iconst (pc := 5) X (n := 4) (by decide +kernel) (by decide), ?_⟩
  refine List.forall_mem_cons.mpr ⟨s_ge (pc := 6) X (off := 20) (by decide +kernel) (by decide), ?_⟩
  refine List.forall_mem_cons.mpr ⟨s_iload_n (pc := 9) X (i := 0) (by decide +kernel) rfl, ?_⟩
  refine List.forall_mem_cons.mpr ⟨s_iload_n (pc := 10) X (i := 2) (by decide +kernel) rfl, ?_⟩
  refine List.forall_mem_cons.mpr ⟨s_callS (pc := 11) X (idx := 138) (by decide +kernel) h_X4_digitOf lk_RX4_138 ls_X4_digitOf li_RX4 lc_X4_digitOf hy_X4_digitOf ⟨Nat.le_trans hd_X4_digitOf hR.1, Nat.le_trans (by have := hd_X4_digitOf; omega) hR.2⟩ hcs, ?_⟩
  refine List.forall_mem_cons.mpr ⟨s_eq0 (pc := 14) X (off := 6) (by decide +kernel) (by decide), ?_⟩
  refine List.forall_mem_cons.mpr ⟨s_iinc (pc := 17) X (n := 1) (by decide +kernel) (by decide) (by decide), ?_⟩
  refine List.forall_mem_cons.mpr ⟨s_iinc (pc := 20) X (n := 1) (by decide +kernel) (by decide) (by decide), ?_⟩
  refine List.forall_mem_cons.mpr ⟨s_goto (pc := 23) X (off := -19) (by decide +kernel) (by decide), ?_⟩
  refine List.forall_mem_cons.mpr ⟨s_iload_n (pc := 26) X (i := 1) (by decide +kernel) rfl, ?_⟩
  refine List.forall_mem_cons.mpr ⟨s_ret (pc := 27) rfl (by decide +kernel), ?_⟩
  exact fun _ h => absurd h List.not_mem_nil
def T_X4_turnedOf (E : Ex) (env : Nat → Mf) : List (Nat × Stq) := [(0, o_il 1 0),
  (1, o_is 2 1),
  (2, o_ic 3 (0)),
  (3, o_is 4 2),
  (4, o_il 5 2),
  (5, o_ic 6 (4)),
  (6, o_ge 50 9),
  (9, o_il 10 0),
  (10, o_il 11 2),
  (11, o_call env 14 59 2),
  (14, o_is 15 3),
  (15, o_il 16 3),
  (16, o_ic 17 (3)),
  (17, o_ne 31 20),
  (20, o_il 21 1),
  (21, o_gs 24),
  (24, o_il 25 2),
  (25, o_ia SH E 26),
  (26, o_b2 27 (fun x y => x + y)),
  (27, o_is 28 1),
  (28, o_goto 44),
  (31, o_il 32 3),
  (32, o_ic 33 (4)),
  (33, o_ne 44 36),
  (36, o_il 37 1),
  (37, o_gs 40),
  (40, o_il 41 2),
  (41, o_ia SH E 42),
  (42, o_b2 43 (fun x y => x - y)),
  (43, o_is 44 1),
  (44, o_inc 47 2 (1)),
  (47, o_goto 4),
  (50, o_il 51 1),
  (51, o_ret)]
set_option maxRecDepth 100000 in
set_option maxHeartbeats 4000000 in
theorem ts_X4_turnedOf {p : Program} {l : Launch} {e : Env} {R : Room} {s : State} {m : MethodId} {args : Array Value} {below : List Frame} {meth : Method} {c : Code} {cells slots : Nat} {Q : State → Prop} {D : va_G} {C : CI3} {A : Nat → Prop} {ad : Nat → Nat} {E : Ex} {env : Nat → Mf} {d : Nat} (X : Cx p R s m args c cX4_turnedOf 4 RX4 D C A ad SH E) (hR : d ≤ R.frames ∧ 100 * d ≤ R.locals) (hcs : cells ≤ R.cells ∧ slots ≤ R.slots) {d_X4_digitOf : Nat} (h_X4_digitOf : CM l SH E yX4_digitOf cX4_digitOf 2 (some .int) d_X4_digitOf (env 59)) (hd_X4_digitOf : d_X4_digitOf + 1 ≤ d) : ∀ q ∈ T_X4_turnedOf E env, SS p l e R s m args below meth c cells slots Q D C A ad SH 4 cX4_turnedOf (some .int) q.1 q.2 := by
  unfold T_X4_turnedOf
  refine List.forall_mem_cons.mpr ⟨s_iload_n (pc := 0) X (i := 0) (by decide +kernel) rfl, ?_⟩
  refine List.forall_mem_cons.mpr ⟨s_istore_n (pc := 1) X (i := 1) (by decide +kernel) rfl (by decide), ?_⟩
  refine List.forall_mem_cons.mpr ⟨s_iconst (pc := 2) X (n := 0) (by decide +kernel) (by decide), ?_⟩
  refine List.forall_mem_cons.mpr ⟨s_istore_n (pc := 3) X (i := 2) (by decide +kernel) rfl (by decide), ?_⟩
  refine List.forall_mem_cons.mpr ⟨s_iload_n (pc := 4) X (i := 2) (by decide +kernel) rfl, ?_⟩
  refine List.forall_mem_cons.mpr ⟨s_iconst (pc := 5) X (n := 4) (by decide +kernel) (by decide), ?_⟩
  refine List.forall_mem_cons.mpr ⟨s_ge (pc := 6) X (off := 44) (by decide +kernel) (by decide), ?_⟩
  refine List.forall_mem_cons.mpr ⟨s_iload_n (pc := 9) X (i := 0) (by decide +kernel) rfl, ?_⟩
  refine List.forall_mem_cons.mpr ⟨s_iload_n (pc := 10) X (i := 2) (by decide +kernel) rfl, ?_⟩
  refine List.forall_mem_cons.mpr ⟨s_callS (pc := 11) X (idx := 138) (by decide +kernel) h_X4_digitOf lk_RX4_138 ls_X4_digitOf li_RX4 lc_X4_digitOf hy_X4_digitOf ⟨Nat.le_trans hd_X4_digitOf hR.1, Nat.le_trans (by have := hd_X4_digitOf; omega) hR.2⟩ hcs, ?_⟩
  refine List.forall_mem_cons.mpr ⟨s_istore_n (pc := 14) X (i := 3) (by decide +kernel) rfl (by decide), ?_⟩
  refine List.forall_mem_cons.mpr ⟨s_iload_n (pc := 15) X (i := 3) (by decide +kernel) rfl, ?_⟩
  refine List.forall_mem_cons.mpr ⟨s_iconst (pc := 16) X (n := 3) (by decide +kernel) (by decide), ?_⟩
  refine List.forall_mem_cons.mpr ⟨s_ne (pc := 17) X (off := 14) (by decide +kernel) (by decide), ?_⟩
  refine List.forall_mem_cons.mpr ⟨s_iload_n (pc := 20) X (i := 1) (by decide +kernel) rfl, ?_⟩
  refine List.forall_mem_cons.mpr ⟨s_gets (pc := 21) X (idx := 132) (by decide +kernel) lk_RX4_132, ?_⟩
  refine List.forall_mem_cons.mpr ⟨s_iload_n (pc := 24) X (i := 2) (by decide +kernel) rfl, ?_⟩
  refine List.forall_mem_cons.mpr ⟨s_iald (pc := 25) X (by decide +kernel), ?_⟩
  refine List.forall_mem_cons.mpr ⟨s_iadd (pc := 26) X (by decide +kernel), ?_⟩
  refine List.forall_mem_cons.mpr ⟨s_istore_n (pc := 27) X (i := 1) (by decide +kernel) rfl (by decide), ?_⟩
  refine List.forall_mem_cons.mpr ⟨s_goto (pc := 28) X (off := 16) (by decide +kernel) (by decide), ?_⟩
  refine List.forall_mem_cons.mpr ⟨s_iload_n (pc := 31) X (i := 3) (by decide +kernel) rfl, ?_⟩
  refine List.forall_mem_cons.mpr ⟨s_iconst (pc := 32) X (n := 4) (by decide +kernel) (by decide), ?_⟩
  refine List.forall_mem_cons.mpr ⟨s_ne (pc := 33) X (off := 11) (by decide +kernel) (by decide), ?_⟩
  refine List.forall_mem_cons.mpr ⟨s_iload_n (pc := 36) X (i := 1) (by decide +kernel) rfl, ?_⟩
  refine List.forall_mem_cons.mpr ⟨s_gets (pc := 37) X (idx := 132) (by decide +kernel) lk_RX4_132, ?_⟩
  refine List.forall_mem_cons.mpr ⟨s_iload_n (pc := 40) X (i := 2) (by decide +kernel) rfl, ?_⟩
  refine List.forall_mem_cons.mpr ⟨s_iald (pc := 41) X (by decide +kernel), ?_⟩
  refine List.forall_mem_cons.mpr ⟨s_isub (pc := 42) X (by decide +kernel), ?_⟩
  refine List.forall_mem_cons.mpr ⟨s_istore_n (pc := 43) X (i := 1) (by decide +kernel) rfl (by decide), ?_⟩
  refine List.forall_mem_cons.mpr ⟨s_iinc (pc := 44) X (n := 1) (by decide +kernel) (by decide) (by decide), ?_⟩
  refine List.forall_mem_cons.mpr ⟨s_goto (pc := 47) X (off := -43) (by decide +kernel) (by decide), ?_⟩
  refine List.forall_mem_cons.mpr ⟨s_iload_n (pc := 50) X (i := 1) (by decide +kernel) rfl, ?_⟩
  refine List.forall_mem_cons.mpr ⟨s_ret (pc := 51) rfl (by decide +kernel), ?_⟩
  exact fun _ h => absurd h List.not_mem_nil
def T_X4_covers (E : Ex) (env : Nat → Mf) : List (Nat × Stq) := [(0, o_ic 1 (0)),
  (1, o_is 2 2),
  (2, o_il 3 2),
  (3, o_ic 4 (4)),
  (4, o_ge 52 7),
  (7, o_il 8 0),
  (8, o_il 9 2),
  (9, o_call env 12 59 2),
  (12, o_is 13 3),
  (13, o_il 14 1),
  (14, o_il 15 2),
  (15, o_call env 18 59 2),
  (18, o_is 20 4),
  (20, o_il 21 3),
  (21, o_ic 22 (2)),
  (22, o_ne 34 25),
  (25, o_il 27 4),
  (27, o_ic 28 (2)),
  (28, o_ge 46 31),
  (31, o_goto 44),
  (34, o_il 35 3),
  (35, o_eq0 46 38),
  (38, o_il 39 3),
  (39, o_il 41 4),
  (41, o_eq 46 44),
  (44, o_ic 45 (0)),
  (45, o_retZ),
  (46, o_inc 49 2 (1)),
  (49, o_goto 2),
  (52, o_ic 53 (1)),
  (53, o_retZ)]
set_option maxRecDepth 100000 in
set_option maxHeartbeats 4000000 in
theorem ts_X4_covers {p : Program} {l : Launch} {e : Env} {R : Room} {s : State} {m : MethodId} {args : Array Value} {below : List Frame} {meth : Method} {c : Code} {cells slots : Nat} {Q : State → Prop} {D : va_G} {C : CI3} {A : Nat → Prop} {ad : Nat → Nat} {E : Ex} {env : Nat → Mf} {d : Nat} (X : Cx p R s m args c cX4_covers 5 RX4 D C A ad SH E) (hR : d ≤ R.frames ∧ 100 * d ≤ R.locals) (hcs : cells ≤ R.cells ∧ slots ≤ R.slots) {d_X4_digitOf : Nat} (h_X4_digitOf : CM l SH E yX4_digitOf cX4_digitOf 2 (some .int) d_X4_digitOf (env 59)) (hd_X4_digitOf : d_X4_digitOf + 1 ≤ d) : ∀ q ∈ T_X4_covers E env, SS p l e R s m args below meth c cells slots Q D C A ad SH 5 cX4_covers (some .boolean) q.1 q.2 := by
  unfold T_X4_covers
  refine List.forall_mem_cons.mpr ⟨s_iconst (pc := 0) X (n := 0) (by decide +kernel) (by decide), ?_⟩
  refine List.forall_mem_cons.mpr ⟨s_istore_n (pc := 1) X (i := 2) (by decide +kernel) rfl (by decide), ?_⟩
  refine List.forall_mem_cons.mpr ⟨s_iload_n (pc := 2) X (i := 2) (by decide +kernel) rfl, ?_⟩
  refine List.forall_mem_cons.mpr ⟨s_iconst (pc := 3) X (n := 4) (by decide +kernel) (by decide), ?_⟩
  refine List.forall_mem_cons.mpr ⟨s_ge (pc := 4) X (off := 48) (by decide +kernel) (by decide), ?_⟩
  refine List.forall_mem_cons.mpr ⟨s_iload_n (pc := 7) X (i := 0) (by decide +kernel) rfl, ?_⟩
  refine List.forall_mem_cons.mpr ⟨s_iload_n (pc := 8) X (i := 2) (by decide +kernel) rfl, ?_⟩
  refine List.forall_mem_cons.mpr ⟨s_callS (pc := 9) X (idx := 138) (by decide +kernel) h_X4_digitOf lk_RX4_138 ls_X4_digitOf li_RX4 lc_X4_digitOf hy_X4_digitOf ⟨Nat.le_trans hd_X4_digitOf hR.1, Nat.le_trans (by have := hd_X4_digitOf; omega) hR.2⟩ hcs, ?_⟩
  refine List.forall_mem_cons.mpr ⟨s_istore_n (pc := 12) X (i := 3) (by decide +kernel) rfl (by decide), ?_⟩
  refine List.forall_mem_cons.mpr ⟨s_iload_n (pc := 13) X (i := 1) (by decide +kernel) rfl, ?_⟩
  refine List.forall_mem_cons.mpr ⟨s_iload_n (pc := 14) X (i := 2) (by decide +kernel) rfl, ?_⟩
  refine List.forall_mem_cons.mpr ⟨s_callS (pc := 15) X (idx := 138) (by decide +kernel) h_X4_digitOf lk_RX4_138 ls_X4_digitOf li_RX4 lc_X4_digitOf hy_X4_digitOf ⟨Nat.le_trans hd_X4_digitOf hR.1, Nat.le_trans (by have := hd_X4_digitOf; omega) hR.2⟩ hcs, ?_⟩
  refine List.forall_mem_cons.mpr ⟨s_istore (pc := 18) X (by decide +kernel) (by decide), ?_⟩
  refine List.forall_mem_cons.mpr ⟨s_iload_n (pc := 20) X (i := 3) (by decide +kernel) rfl, ?_⟩
  refine List.forall_mem_cons.mpr ⟨s_iconst (pc := 21) X (n := 2) (by decide +kernel) (by decide), ?_⟩
  refine List.forall_mem_cons.mpr ⟨s_ne (pc := 22) X (off := 12) (by decide +kernel) (by decide), ?_⟩
  refine List.forall_mem_cons.mpr ⟨s_iload (pc := 25) X (by decide +kernel), ?_⟩
  refine List.forall_mem_cons.mpr ⟨s_iconst (pc := 27) X (n := 2) (by decide +kernel) (by decide), ?_⟩
  refine List.forall_mem_cons.mpr ⟨s_ge (pc := 28) X (off := 18) (by decide +kernel) (by decide), ?_⟩
  refine List.forall_mem_cons.mpr ⟨s_goto (pc := 31) X (off := 13) (by decide +kernel) (by decide), ?_⟩
  refine List.forall_mem_cons.mpr ⟨s_iload_n (pc := 34) X (i := 3) (by decide +kernel) rfl, ?_⟩
  refine List.forall_mem_cons.mpr ⟨s_eq0 (pc := 35) X (off := 11) (by decide +kernel) (by decide), ?_⟩
  refine List.forall_mem_cons.mpr ⟨s_iload_n (pc := 38) X (i := 3) (by decide +kernel) rfl, ?_⟩
  refine List.forall_mem_cons.mpr ⟨s_iload (pc := 39) X (by decide +kernel), ?_⟩
  refine List.forall_mem_cons.mpr ⟨s_eq (pc := 41) X (off := 5) (by decide +kernel) (by decide), ?_⟩
  refine List.forall_mem_cons.mpr ⟨s_iconst (pc := 44) X (n := 0) (by decide +kernel) (by decide), ?_⟩
  refine List.forall_mem_cons.mpr ⟨s_retZ (pc := 45) (by decide +kernel), ?_⟩
  refine List.forall_mem_cons.mpr ⟨s_iinc (pc := 46) X (n := 1) (by decide +kernel) (by decide) (by decide), ?_⟩
  refine List.forall_mem_cons.mpr ⟨s_goto (pc := 49) X (off := -47) (by decide +kernel) (by decide), ?_⟩
  refine List.forall_mem_cons.mpr ⟨s_iconst (pc := 52) X (n := 1) (by decide +kernel) (by decide), ?_⟩
  refine List.forall_mem_cons.mpr ⟨s_retZ (pc := 53) (by decide +kernel), ?_⟩
  exact fun _ h => absurd h List.not_mem_nil
def T_X4_alikeLaw (E : Ex) (env : Nat → Mf) : List (Nat × Stq) := [(0, o_ic 1 (0)),
  (1, o_is 2 1),
  (2, o_ic 3 (0)),
  (3, o_is 4 2),
  (4, o_il 5 2),
  (5, o_ic 6 (4)),
  (6, o_ge 34 9),
  (9, o_il 10 0),
  (10, o_il 11 2),
  (11, o_b2 12 (fun x y => x >>> (y &&& 31))),
  (12, o_ic 13 (1)),
  (13, o_b2 14 (fun x y => x &&& y)),
  (14, o_ic 15 (1)),
  (15, o_ne 28 18),
  (18, o_il 19 1),
  (19, o_ic 20 (1)),
  (20, o_gs 23),
  (23, o_il 24 2),
  (24, o_ia SH E 25),
  (25, o_b2 26 (fun x y => x * y)),
  (26, o_b2 27 (fun x y => x + y)),
  (27, o_is 28 1),
  (28, o_inc 31 2 (1)),
  (31, o_goto 4),
  (34, o_il 35 1),
  (35, o_ret)]
set_option maxRecDepth 100000 in
set_option maxHeartbeats 4000000 in
theorem ts_X4_alikeLaw {p : Program} {l : Launch} {e : Env} {R : Room} {s : State} {m : MethodId} {args : Array Value} {below : List Frame} {meth : Method} {c : Code} {cells slots : Nat} {Q : State → Prop} {D : va_G} {C : CI3} {A : Nat → Prop} {ad : Nat → Nat} {E : Ex} {env : Nat → Mf} {d : Nat} (X : Cx p R s m args c cX4_alikeLaw 3 RX4 D C A ad SH E) (hR : d ≤ R.frames ∧ 100 * d ≤ R.locals) (hcs : cells ≤ R.cells ∧ slots ≤ R.slots) : ∀ q ∈ T_X4_alikeLaw E env, SS p l e R s m args below meth c cells slots Q D C A ad SH 3 cX4_alikeLaw (some .int) q.1 q.2 := by
  unfold T_X4_alikeLaw
  refine List.forall_mem_cons.mpr ⟨s_iconst (pc := 0) X (n := 0) (by decide +kernel) (by decide), ?_⟩
  refine List.forall_mem_cons.mpr ⟨s_istore_n (pc := 1) X (i := 1) (by decide +kernel) rfl (by decide), ?_⟩
  refine List.forall_mem_cons.mpr ⟨s_iconst (pc := 2) X (n := 0) (by decide +kernel) (by decide), ?_⟩
  refine List.forall_mem_cons.mpr ⟨s_istore_n (pc := 3) X (i := 2) (by decide +kernel) rfl (by decide), ?_⟩
  refine List.forall_mem_cons.mpr ⟨s_iload_n (pc := 4) X (i := 2) (by decide +kernel) rfl, ?_⟩
  refine List.forall_mem_cons.mpr ⟨s_iconst (pc := 5) X (n := 4) (by decide +kernel) (by decide), ?_⟩
  refine List.forall_mem_cons.mpr ⟨s_ge (pc := 6) X (off := 28) (by decide +kernel) (by decide), ?_⟩
  refine List.forall_mem_cons.mpr ⟨s_iload_n (pc := 9) X (i := 0) (by decide +kernel) rfl, ?_⟩
  refine List.forall_mem_cons.mpr ⟨s_iload_n (pc := 10) X (i := 2) (by decide +kernel) rfl, ?_⟩
  refine List.forall_mem_cons.mpr ⟨s_ishr (pc := 11) X (by decide +kernel), ?_⟩
  refine List.forall_mem_cons.mpr ⟨s_iconst (pc := 12) X (n := 1) (by decide +kernel) (by decide), ?_⟩
  refine List.forall_mem_cons.mpr ⟨s_iand (pc := 13) X (by decide +kernel), ?_⟩
  refine List.forall_mem_cons.mpr ⟨s_iconst (pc := 14) X (n := 1) (by decide +kernel) (by decide), ?_⟩
  refine List.forall_mem_cons.mpr ⟨s_ne (pc := 15) X (off := 13) (by decide +kernel) (by decide), ?_⟩
  refine List.forall_mem_cons.mpr ⟨s_iload_n (pc := 18) X (i := 1) (by decide +kernel) rfl, ?_⟩
  refine List.forall_mem_cons.mpr ⟨s_iconst (pc := 19) X (n := 1) (by decide +kernel) (by decide), ?_⟩
  refine List.forall_mem_cons.mpr ⟨s_gets (pc := 20) X (idx := 132) (by decide +kernel) lk_RX4_132, ?_⟩
  refine List.forall_mem_cons.mpr ⟨s_iload_n (pc := 23) X (i := 2) (by decide +kernel) rfl, ?_⟩
  refine List.forall_mem_cons.mpr ⟨s_iald (pc := 24) X (by decide +kernel), ?_⟩
  refine List.forall_mem_cons.mpr ⟨s_imul (pc := 25) X (by decide +kernel), ?_⟩
  refine List.forall_mem_cons.mpr ⟨s_iadd (pc := 26) X (by decide +kernel), ?_⟩
  refine List.forall_mem_cons.mpr ⟨s_istore_n (pc := 27) X (i := 1) (by decide +kernel) rfl (by decide), ?_⟩
  refine List.forall_mem_cons.mpr ⟨s_iinc (pc := 28) X (n := 1) (by decide +kernel) (by decide) (by decide), ?_⟩
  refine List.forall_mem_cons.mpr ⟨s_goto (pc := 31) X (off := -27) (by decide +kernel) (by decide), ?_⟩
  refine List.forall_mem_cons.mpr ⟨s_iload_n (pc := 34) X (i := 1) (by decide +kernel) rfl, ?_⟩
  refine List.forall_mem_cons.mpr ⟨s_ret (pc := 35) rfl (by decide +kernel), ?_⟩
  exact fun _ h => absurd h List.not_mem_nil
