/-! THE LAW'S STEPS, from its loop on -/
def T_L_law_0 (E : Ex) (env : Nat → Mf) : List (Nat × Stq) := [(16, o_ic 17 (0)),
  (17, o_is 18 3),
  (18, o_il 19 3),
  (19, o_al 20 0),
  (20, o_len SH E 21),
  (21, o_ic 23 (8)),
  (23, o_b2 24 (fun x y => x - y)),
  (24, o_gt 903 27),
  (27, o_al 28 0),
  (28, o_il 29 3),
  (29, o_ia SH E 30),
  (30, o_ic 32 (31)),
  (32, o_b2 33 (fun x y => x &&& y)),
  (33, o_sw 897 [(0, 148), (1, 171), (2, 258), (3, 301), (4, 324), (5, 357), (6, 390), (7, 423), (8, 456), (9, 489), (10, 512), (11, 525), (12, 548), (13, 591), (14, 624), (15, 667), (16, 690), (17, 713), (18, 746), (19, 769), (20, 782), (21, 805), (22, 838), (23, 861), (24, 884)]),
  (148, o_al 149 1),
  (149, o_al 150 0),
  (150, o_il 151 3),
  (151, o_ic 152 (1)),
  (152, o_b2 153 (fun x y => x + y)),
  (153, o_ia SH E 154),
  (154, o_callV SH env 157 28 1 4),
  (157, o_al 158 2),
  (158, o_al 159 0),
  (159, o_il 160 3),
  (160, o_ic 161 (1)),
  (161, o_b2 162 (fun x y => x + y)),
  (162, o_ia SH E 163),
  (163, o_callV SH env 166 72 1 5),
  (166, o_eq 897 169),
  (169, o_ic 170 (0)),
  (170, o_retZ),
  (171, o_al 172 1),
  (172, o_al 173 0),
  (173, o_il 174 3),
  (174, o_ic 175 (1)),
  (175, o_b2 176 (fun x y => x + y)),
  (176, o_ia SH E 177),
  (177, o_al 178 0),
  (178, o_il 179 3),
  (179, o_ic 180 (2))]
set_option maxRecDepth 100000 in
set_option maxHeartbeats 4000000 in
theorem ts_L_law_0 {p : Program} {l : Launch} {e : Env} {R : Room} {s : State} {m : MethodId} {args : Array Value} {below : List Frame} {meth : Method} {c : Code} {cells slots : Nat} {Q : State → Prop} {D : va_G} {C : CI3} {A : Nat → Prop} {ad : Nat → Nat} {E : Ex} {env : Nat → Mf} {d : Nat} (X : Cx p R s m args c cL_law 4 RL D C A ad SH E) (hR : d ≤ R.frames ∧ 100 * d ≤ R.locals) (hcs : cells ≤ R.cells ∧ slots ≤ R.slots) {d_X4_table : Nat} (h_X4_table : CM l SH E yX4_table cX4_table 2 (some .boolean) d_X4_table (env 28)) (hd_X4_table : d_X4_table + 1 ≤ d) {d_X5_table : Nat} (h_X5_table : CM l SH E yX5_table cX5_table 3 (some .boolean) d_X5_table (env 72)) (hd_X5_table : d_X5_table + 1 ≤ d) {d_X4_put : Nat} (h_X4_put : CM l SH E yX4_put cX4_put 8 (some .boolean) d_X4_put (env 29)) (hd_X4_put : d_X4_put + 1 ≤ d) {d_X5_put : Nat} (h_X5_put : CM l SH E yX5_put cX5_put 11 (some .boolean) d_X5_put (env 74)) (hd_X5_put : d_X5_put + 1 ≤ d) {d_X4_change : Nat} (h_X4_change : CM l SH E yX4_change cX4_change 4 (some .boolean) d_X4_change (env 30)) (hd_X4_change : d_X4_change + 1 ≤ d) {d_X5_change : Nat} (h_X5_change : CM l SH E yX5_change cX5_change 4 (some .boolean) d_X5_change (env 75)) (hd_X5_change : d_X5_change + 1 ≤ d) {d_X4_strike : Nat} (h_X4_strike : CM l SH E yX4_strike cX4_strike 2 (some .boolean) d_X4_strike (env 31)) (hd_X4_strike : d_X4_strike + 1 ≤ d) {d_X5_strike : Nat} (h_X5_strike : CM l SH E yX5_strike cX5_strike 2 (some .boolean) d_X5_strike (env 76)) (hd_X5_strike : d_X5_strike + 1 ≤ d) {d_X4_price : Nat} (h_X4_price : CM l SH E yX4_price cX4_price 3 (some .boolean) d_X4_price (env 32)) (hd_X4_price : d_X4_price + 1 ≤ d) {d_X5_price : Nat} (h_X5_price : CM l SH E yX5_price cX5_price 3 (some .boolean) d_X5_price (env 77)) (hd_X5_price : d_X5_price + 1 ≤ d) {d_X4_swap : Nat} (h_X4_swap : CM l SH E yX4_swap cX4_swap 3 (some .boolean) d_X4_swap (env 33)) (hd_X4_swap : d_X4_swap + 1 ≤ d) {d_X5_swap : Nat} (h_X5_swap : CM l SH E yX5_swap cX5_swap 5 (some .boolean) d_X5_swap (env 78)) (hd_X5_swap : d_X5_swap + 1 ≤ d) {d_X4_at : Nat} (h_X4_at : CM l SH E yX4_at cX4_at 3 (some .int) d_X4_at (env 34)) (hd_X4_at : d_X4_at + 1 ≤ d) {d_X5_at : Nat} (h_X5_at : CM l SH E yX5_at cX5_at 3 (some .int) d_X5_at (env 79)) (hd_X5_at : d_X5_at + 1 ≤ d) {d_X4_row : Nat} (h_X4_row : CM l SH E yX4_row cX4_row 3 (some .int) d_X4_row (env 35)) (hd_X4_row : d_X4_row + 1 ≤ d) {d_X5_row : Nat} (h_X5_row : CM l SH E yX5_row cX5_row 3 (some .int) d_X5_row (env 80)) (hd_X5_row : d_X5_row + 1 ≤ d) {d_X4_between : Nat} (h_X4_between : CM l SH E yX4_between cX4_between 3 (some .int) d_X4_between (env 36)) (hd_X4_between : d_X4_between + 1 ≤ d) {d_X5_between : Nat} (h_X5_between : CM l SH E yX5_between cX5_between 3 (some .int) d_X5_between (env 85)) (hd_X5_between : d_X5_between + 1 ≤ d) {d_X4_pairs : Nat} (h_X4_pairs : CM l SH E yX4_pairs cX4_pairs 2 (some .int) d_X4_pairs (env 37)) (hd_X4_pairs : d_X4_pairs + 1 ≤ d) {d_X5_pairs : Nat} (h_X5_pairs : CM l SH E yX5_pairs cX5_pairs 3 (some .int) d_X5_pairs (env 88)) (hd_X5_pairs : d_X5_pairs + 1 ≤ d) {d_X4_kinds : Nat} (h_X4_kinds : CM l SH E yX4_kinds cX4_kinds 1 (some .int) d_X4_kinds (env 38)) (hd_X4_kinds : d_X4_kinds + 1 ≤ d) {d_X5_kinds : Nat} (h_X5_kinds : CM l SH E yX5_kinds cX5_kinds 3 (some .int) d_X5_kinds (env 89)) (hd_X5_kinds : d_X5_kinds + 1 ≤ d) {d_X4_broken : Nat} (h_X4_broken : CM l SH E yX4_broken cX4_broken 2 (some .int) d_X4_broken (env 39)) (hd_X4_broken : d_X4_broken + 1 ≤ d) {d_X5_broken : Nat} (h_X5_broken : CM l SH E yX5_broken cX5_broken 2 (some .int) d_X5_broken (env 97)) (hd_X5_broken : d_X5_broken + 1 ≤ d) {d_X4_breaker : Nat} (h_X4_breaker : CM l SH E yX4_breaker cX4_breaker 7 (some .int) d_X4_breaker (env 40)) (hd_X4_breaker : d_X4_breaker + 1 ≤ d) {d_X5_breaker : Nat} (h_X5_breaker : CM l SH E yX5_breaker cX5_breaker 7 (some .int) d_X5_breaker (env 98)) (hd_X5_breaker : d_X5_breaker + 1 ≤ d) {d_X4_laws : Nat} (h_X4_laws : CM l SH E yX4_laws cX4_laws 5 (some .int) d_X4_laws (env 41)) (hd_X4_laws : d_X4_laws + 1 ≤ d) {d_X5_laws : Nat} (h_X5_laws : CM l SH E yX5_laws cX5_laws 3 (some .int) d_X5_laws (env 104)) (hd_X5_laws : d_X5_laws + 1 ≤ d) {d_X4_law : Nat} (h_X4_law : CM l SH E yX4_law cX4_law 6 (some .int) d_X4_law (env 42)) (hd_X4_law : d_X4_law + 1 ≤ d) {d_X5_law : Nat} (h_X5_law : CM l SH E yX5_law cX5_law 4 (some .int) d_X5_law (env 105)) (hd_X5_law : d_X5_law + 1 ≤ d) {d_X4_sort : Nat} (h_X4_sort : CM l SH E yX4_sort cX4_sort 6 (some .int) d_X4_sort (env 43)) (hd_X4_sort : d_X4_sort + 1 ≤ d) {d_X5_sort : Nat} (h_X5_sort : CM l SH E yX5_sort cX5_sort 7 (some .int) d_X5_sort (env 106)) (hd_X5_sort : d_X5_sort + 1 ≤ d) {d_X4_least : Nat} (h_X4_least : CM l SH E yX4_least cX4_least 2 (some .int) d_X4_least (env 44)) (hd_X4_least : d_X4_least + 1 ≤ d) {d_X5_least : Nat} (h_X5_least : CM l SH E yX5_least cX5_least 2 (some .int) d_X5_least (env 93)) (hd_X5_least : d_X5_least + 1 ≤ d) {d_X4_said : Nat} (h_X4_said : CM l SH E yX4_said cX4_said 3 (some .int) d_X4_said (env 45)) (hd_X4_said : d_X4_said + 1 ≤ d) {d_X5_said : Nat} (h_X5_said : CM l SH E yX5_said cX5_said 3 (some .int) d_X5_said (env 101)) (hd_X5_said : d_X5_said + 1 ≤ d) {d_X4_settles : Nat} (h_X4_settles : CM l SH E yX4_settles cX4_settles 4 (some .int) d_X4_settles (env 46)) (hd_X4_settles : d_X4_settles + 1 ≤ d) {d_X5_settles : Nat} (h_X5_settles : CM l SH E yX5_settles cX5_settles 6 (some .int) d_X5_settles (env 109)) (hd_X5_settles : d_X5_settles + 1 ≤ d) {d_X4_keys : Nat} (h_X4_keys : CM l SH E yX4_keys cX4_keys 3 (some .int) d_X4_keys (env 47)) (hd_X4_keys : d_X4_keys + 1 ≤ d) {d_X5_keys : Nat} (h_X5_keys : CM l SH E yX5_keys cX5_keys 3 (some .int) d_X5_keys (env 112)) (hd_X5_keys : d_X5_keys + 1 ≤ d) {d_X4_key : Nat} (h_X4_key : CM l SH E yX4_key cX4_key 4 (some .int) d_X4_key (env 48)) (hd_X4_key : d_X4_key + 1 ≤ d) {d_X5_key : Nat} (h_X5_key : CM l SH E yX5_key cX5_key 4 (some .int) d_X5_key (env 113)) (hd_X5_key : d_X5_key + 1 ≤ d) {d_X4_tell : Nat} (h_X4_tell : CM l SH E yX4_tell cX4_tell 3 (some .boolean) d_X4_tell (env 49)) (hd_X4_tell : d_X4_tell + 1 ≤ d) {d_X5_tell : Nat} (h_X5_tell : CM l SH E yX5_tell cX5_tell 3 (some .boolean) d_X5_tell (env 114)) (hd_X5_tell : d_X5_tell + 1 ≤ d) {d_X4_told : Nat} (h_X4_told : CM l SH E yX4_told cX4_told 2 (some .int) d_X4_told (env 50)) (hd_X4_told : d_X4_told + 1 ≤ d) {d_X5_told : Nat} (h_X5_told : CM l SH E yX5_told cX5_told 2 (some .int) d_X5_told (env 115)) (hd_X5_told : d_X5_told + 1 ≤ d) {d_X4_mend : Nat} (h_X4_mend : CM l SH E yX4_mend cX4_mend 2 (some .int) d_X4_mend (env 51)) (hd_X4_mend : d_X4_mend + 1 ≤ d) {d_X5_mend : Nat} (h_X5_mend : CM l SH E yX5_mend cX5_mend 10 (some .int) d_X5_mend (env 117)) (hd_X5_mend : d_X5_mend + 1 ≤ d) {d_X4_undo : Nat} (h_X4_undo : CM l SH E yX4_undo cX4_undo 1 (some .boolean) d_X4_undo (env 52)) (hd_X4_undo : d_X4_undo + 1 ≤ d) {d_X5_undo : Nat} (h_X5_undo : CM l SH E yX5_undo cX5_undo 2 (some .boolean) d_X5_undo (env 71)) (hd_X5_undo : d_X5_undo + 1 ≤ d) : ∀ q ∈ T_L_law_0 E env, SS p l e R s m args below meth c cells slots Q D C A ad SH 4 cL_law (some .boolean) q.1 q.2 := by
  unfold T_L_law_0
  refine List.forall_mem_cons.mpr ⟨s_iconst (pc := 16) X (n := 0) (by decide +kernel) (by decide), ?_⟩
  refine List.forall_mem_cons.mpr ⟨s_istore_n (pc := 17) X (i := 3) (by decide +kernel) rfl (by decide), ?_⟩
  refine List.forall_mem_cons.mpr ⟨s_iload_n (pc := 18) X (i := 3) (by decide +kernel) rfl, ?_⟩
  refine List.forall_mem_cons.mpr ⟨s_aload_n (pc := 19) X (i := 0) (by decide +kernel) rfl, ?_⟩
  refine List.forall_mem_cons.mpr ⟨s_alen (pc := 20) X (by decide +kernel), ?_⟩
  refine List.forall_mem_cons.mpr ⟨s_bipush (pc := 21) X (n := 8) (by decide +kernel) (by decide), ?_⟩
  refine List.forall_mem_cons.mpr ⟨s_isub (pc := 23) X (by decide +kernel), ?_⟩
  refine List.forall_mem_cons.mpr ⟨s_gt (pc := 24) X (off := 879) (by decide +kernel) (by decide), ?_⟩
  refine List.forall_mem_cons.mpr ⟨s_aload_n (pc := 27) X (i := 0) (by decide +kernel) rfl, ?_⟩
  refine List.forall_mem_cons.mpr ⟨s_iload_n (pc := 28) X (i := 3) (by decide +kernel) rfl, ?_⟩
  refine List.forall_mem_cons.mpr ⟨s_iald (pc := 29) X (by decide +kernel), ?_⟩
  refine List.forall_mem_cons.mpr ⟨s_bipush (pc := 30) X (n := 31) (by decide +kernel) (by decide), ?_⟩
  refine List.forall_mem_cons.mpr ⟨s_iand (pc := 32) X (by decide +kernel), ?_⟩
  refine List.forall_mem_cons.mpr ⟨s_table (pc := 33) X (df := 864) (lo := 0) (hi := 24) (offs := #[115, 138, 225, 268, 291, 324, 357, 390, 423, 456, 479, 492, 515, 558, 591, 634, 657, 680, 713, 736, 749, 772, 805, 828, 851]) (len := 115) (by decide +kernel) (by decide) (by decide +kernel) (by decide +kernel), ?_⟩
  refine List.forall_mem_cons.mpr ⟨s_aload_n (pc := 148) X (i := 1) (by decide +kernel) rfl, ?_⟩
  refine List.forall_mem_cons.mpr ⟨s_aload_n (pc := 149) X (i := 0) (by decide +kernel) rfl, ?_⟩
  refine List.forall_mem_cons.mpr ⟨s_iload_n (pc := 150) X (i := 3) (by decide +kernel) rfl, ?_⟩
  refine List.forall_mem_cons.mpr ⟨s_iconst (pc := 151) X (n := 1) (by decide +kernel) (by decide), ?_⟩
  refine List.forall_mem_cons.mpr ⟨s_iadd (pc := 152) X (by decide +kernel), ?_⟩
  refine List.forall_mem_cons.mpr ⟨s_iald (pc := 153) X (by decide +kernel), ?_⟩
  refine List.forall_mem_cons.mpr ⟨s_callV (pc := 154) X (idx := 13) (by decide +kernel) h_X4_table rfl lk_RL_13 ls_X4_table lz_X4_table li_RX4 lc_X4_table hv_X4_table ⟨Nat.le_trans hd_X4_table hR.1, Nat.le_trans (by have := hd_X4_table; omega) hR.2⟩ hcs, ?_⟩
  refine List.forall_mem_cons.mpr ⟨s_aload_n (pc := 157) X (i := 2) (by decide +kernel) rfl, ?_⟩
  refine List.forall_mem_cons.mpr ⟨s_aload_n (pc := 158) X (i := 0) (by decide +kernel) rfl, ?_⟩
  refine List.forall_mem_cons.mpr ⟨s_iload_n (pc := 159) X (i := 3) (by decide +kernel) rfl, ?_⟩
  refine List.forall_mem_cons.mpr ⟨s_iconst (pc := 160) X (n := 1) (by decide +kernel) (by decide), ?_⟩
  refine List.forall_mem_cons.mpr ⟨s_iadd (pc := 161) X (by decide +kernel), ?_⟩
  refine List.forall_mem_cons.mpr ⟨s_iald (pc := 162) X (by decide +kernel), ?_⟩
  refine List.forall_mem_cons.mpr ⟨s_callV (pc := 163) X (idx := 17) (by decide +kernel) h_X5_table rfl lk_RL_17 ls_X5_table lz_X5_table li_RX5 lc_X5_table hv_X5_table ⟨Nat.le_trans hd_X5_table hR.1, Nat.le_trans (by have := hd_X5_table; omega) hR.2⟩ hcs, ?_⟩
  refine List.forall_mem_cons.mpr ⟨s_eq (pc := 166) X (off := 731) (by decide +kernel) (by decide), ?_⟩
  refine List.forall_mem_cons.mpr ⟨s_iconst (pc := 169) X (n := 0) (by decide +kernel) (by decide), ?_⟩
  refine List.forall_mem_cons.mpr ⟨s_retZ (pc := 170) (by decide +kernel), ?_⟩
  refine List.forall_mem_cons.mpr ⟨s_aload_n (pc := 171) X (i := 1) (by decide +kernel) rfl, ?_⟩
  refine List.forall_mem_cons.mpr ⟨s_aload_n (pc := 172) X (i := 0) (by decide +kernel) rfl, ?_⟩
  refine List.forall_mem_cons.mpr ⟨s_iload_n (pc := 173) X (i := 3) (by decide +kernel) rfl, ?_⟩
  refine List.forall_mem_cons.mpr ⟨s_iconst (pc := 174) X (n := 1) (by decide +kernel) (by decide), ?_⟩
  refine List.forall_mem_cons.mpr ⟨s_iadd (pc := 175) X (by decide +kernel), ?_⟩
  refine List.forall_mem_cons.mpr ⟨s_iald (pc := 176) X (by decide +kernel), ?_⟩
  refine List.forall_mem_cons.mpr ⟨s_aload_n (pc := 177) X (i := 0) (by decide +kernel) rfl, ?_⟩
  refine List.forall_mem_cons.mpr ⟨s_iload_n (pc := 178) X (i := 3) (by decide +kernel) rfl, ?_⟩
  refine List.forall_mem_cons.mpr ⟨s_iconst (pc := 179) X (n := 2) (by decide +kernel) (by decide), ?_⟩
  exact fun _ h => absurd h List.not_mem_nil
def T_L_law_1 (E : Ex) (env : Nat → Mf) : List (Nat × Stq) := [(180, o_b2 181 (fun x y => x + y)),
  (181, o_ia SH E 182),
  (182, o_al 183 0),
  (183, o_il 184 3),
  (184, o_ic 185 (3)),
  (185, o_b2 186 (fun x y => x + y)),
  (186, o_ia SH E 187),
  (187, o_al 188 0),
  (188, o_il 189 3),
  (189, o_ic 190 (4)),
  (190, o_b2 191 (fun x y => x + y)),
  (191, o_ia SH E 192),
  (192, o_al 193 0),
  (193, o_il 194 3),
  (194, o_ic 195 (5)),
  (195, o_b2 196 (fun x y => x + y)),
  (196, o_ia SH E 197),
  (197, o_al 198 0),
  (198, o_il 199 3),
  (199, o_ic 201 (6)),
  (201, o_b2 202 (fun x y => x + y)),
  (202, o_ia SH E 203),
  (203, o_al 204 0),
  (204, o_il 205 3),
  (205, o_ic 207 (7)),
  (207, o_b2 208 (fun x y => x + y)),
  (208, o_ia SH E 209),
  (209, o_callV SH env 212 29 7 4),
  (212, o_al 213 2),
  (213, o_al 214 0),
  (214, o_il 215 3),
  (215, o_ic 216 (1)),
  (216, o_b2 217 (fun x y => x + y)),
  (217, o_ia SH E 218),
  (218, o_al 219 0),
  (219, o_il 220 3),
  (220, o_ic 221 (2)),
  (221, o_b2 222 (fun x y => x + y)),
  (222, o_ia SH E 223),
  (223, o_al 224 0)]
set_option maxRecDepth 100000 in
set_option maxHeartbeats 4000000 in
theorem ts_L_law_1 {p : Program} {l : Launch} {e : Env} {R : Room} {s : State} {m : MethodId} {args : Array Value} {below : List Frame} {meth : Method} {c : Code} {cells slots : Nat} {Q : State → Prop} {D : va_G} {C : CI3} {A : Nat → Prop} {ad : Nat → Nat} {E : Ex} {env : Nat → Mf} {d : Nat} (X : Cx p R s m args c cL_law 4 RL D C A ad SH E) (hR : d ≤ R.frames ∧ 100 * d ≤ R.locals) (hcs : cells ≤ R.cells ∧ slots ≤ R.slots) {d_X4_table : Nat} (h_X4_table : CM l SH E yX4_table cX4_table 2 (some .boolean) d_X4_table (env 28)) (hd_X4_table : d_X4_table + 1 ≤ d) {d_X5_table : Nat} (h_X5_table : CM l SH E yX5_table cX5_table 3 (some .boolean) d_X5_table (env 72)) (hd_X5_table : d_X5_table + 1 ≤ d) {d_X4_put : Nat} (h_X4_put : CM l SH E yX4_put cX4_put 8 (some .boolean) d_X4_put (env 29)) (hd_X4_put : d_X4_put + 1 ≤ d) {d_X5_put : Nat} (h_X5_put : CM l SH E yX5_put cX5_put 11 (some .boolean) d_X5_put (env 74)) (hd_X5_put : d_X5_put + 1 ≤ d) {d_X4_change : Nat} (h_X4_change : CM l SH E yX4_change cX4_change 4 (some .boolean) d_X4_change (env 30)) (hd_X4_change : d_X4_change + 1 ≤ d) {d_X5_change : Nat} (h_X5_change : CM l SH E yX5_change cX5_change 4 (some .boolean) d_X5_change (env 75)) (hd_X5_change : d_X5_change + 1 ≤ d) {d_X4_strike : Nat} (h_X4_strike : CM l SH E yX4_strike cX4_strike 2 (some .boolean) d_X4_strike (env 31)) (hd_X4_strike : d_X4_strike + 1 ≤ d) {d_X5_strike : Nat} (h_X5_strike : CM l SH E yX5_strike cX5_strike 2 (some .boolean) d_X5_strike (env 76)) (hd_X5_strike : d_X5_strike + 1 ≤ d) {d_X4_price : Nat} (h_X4_price : CM l SH E yX4_price cX4_price 3 (some .boolean) d_X4_price (env 32)) (hd_X4_price : d_X4_price + 1 ≤ d) {d_X5_price : Nat} (h_X5_price : CM l SH E yX5_price cX5_price 3 (some .boolean) d_X5_price (env 77)) (hd_X5_price : d_X5_price + 1 ≤ d) {d_X4_swap : Nat} (h_X4_swap : CM l SH E yX4_swap cX4_swap 3 (some .boolean) d_X4_swap (env 33)) (hd_X4_swap : d_X4_swap + 1 ≤ d) {d_X5_swap : Nat} (h_X5_swap : CM l SH E yX5_swap cX5_swap 5 (some .boolean) d_X5_swap (env 78)) (hd_X5_swap : d_X5_swap + 1 ≤ d) {d_X4_at : Nat} (h_X4_at : CM l SH E yX4_at cX4_at 3 (some .int) d_X4_at (env 34)) (hd_X4_at : d_X4_at + 1 ≤ d) {d_X5_at : Nat} (h_X5_at : CM l SH E yX5_at cX5_at 3 (some .int) d_X5_at (env 79)) (hd_X5_at : d_X5_at + 1 ≤ d) {d_X4_row : Nat} (h_X4_row : CM l SH E yX4_row cX4_row 3 (some .int) d_X4_row (env 35)) (hd_X4_row : d_X4_row + 1 ≤ d) {d_X5_row : Nat} (h_X5_row : CM l SH E yX5_row cX5_row 3 (some .int) d_X5_row (env 80)) (hd_X5_row : d_X5_row + 1 ≤ d) {d_X4_between : Nat} (h_X4_between : CM l SH E yX4_between cX4_between 3 (some .int) d_X4_between (env 36)) (hd_X4_between : d_X4_between + 1 ≤ d) {d_X5_between : Nat} (h_X5_between : CM l SH E yX5_between cX5_between 3 (some .int) d_X5_between (env 85)) (hd_X5_between : d_X5_between + 1 ≤ d) {d_X4_pairs : Nat} (h_X4_pairs : CM l SH E yX4_pairs cX4_pairs 2 (some .int) d_X4_pairs (env 37)) (hd_X4_pairs : d_X4_pairs + 1 ≤ d) {d_X5_pairs : Nat} (h_X5_pairs : CM l SH E yX5_pairs cX5_pairs 3 (some .int) d_X5_pairs (env 88)) (hd_X5_pairs : d_X5_pairs + 1 ≤ d) {d_X4_kinds : Nat} (h_X4_kinds : CM l SH E yX4_kinds cX4_kinds 1 (some .int) d_X4_kinds (env 38)) (hd_X4_kinds : d_X4_kinds + 1 ≤ d) {d_X5_kinds : Nat} (h_X5_kinds : CM l SH E yX5_kinds cX5_kinds 3 (some .int) d_X5_kinds (env 89)) (hd_X5_kinds : d_X5_kinds + 1 ≤ d) {d_X4_broken : Nat} (h_X4_broken : CM l SH E yX4_broken cX4_broken 2 (some .int) d_X4_broken (env 39)) (hd_X4_broken : d_X4_broken + 1 ≤ d) {d_X5_broken : Nat} (h_X5_broken : CM l SH E yX5_broken cX5_broken 2 (some .int) d_X5_broken (env 97)) (hd_X5_broken : d_X5_broken + 1 ≤ d) {d_X4_breaker : Nat} (h_X4_breaker : CM l SH E yX4_breaker cX4_breaker 7 (some .int) d_X4_breaker (env 40)) (hd_X4_breaker : d_X4_breaker + 1 ≤ d) {d_X5_breaker : Nat} (h_X5_breaker : CM l SH E yX5_breaker cX5_breaker 7 (some .int) d_X5_breaker (env 98)) (hd_X5_breaker : d_X5_breaker + 1 ≤ d) {d_X4_laws : Nat} (h_X4_laws : CM l SH E yX4_laws cX4_laws 5 (some .int) d_X4_laws (env 41)) (hd_X4_laws : d_X4_laws + 1 ≤ d) {d_X5_laws : Nat} (h_X5_laws : CM l SH E yX5_laws cX5_laws 3 (some .int) d_X5_laws (env 104)) (hd_X5_laws : d_X5_laws + 1 ≤ d) {d_X4_law : Nat} (h_X4_law : CM l SH E yX4_law cX4_law 6 (some .int) d_X4_law (env 42)) (hd_X4_law : d_X4_law + 1 ≤ d) {d_X5_law : Nat} (h_X5_law : CM l SH E yX5_law cX5_law 4 (some .int) d_X5_law (env 105)) (hd_X5_law : d_X5_law + 1 ≤ d) {d_X4_sort : Nat} (h_X4_sort : CM l SH E yX4_sort cX4_sort 6 (some .int) d_X4_sort (env 43)) (hd_X4_sort : d_X4_sort + 1 ≤ d) {d_X5_sort : Nat} (h_X5_sort : CM l SH E yX5_sort cX5_sort 7 (some .int) d_X5_sort (env 106)) (hd_X5_sort : d_X5_sort + 1 ≤ d) {d_X4_least : Nat} (h_X4_least : CM l SH E yX4_least cX4_least 2 (some .int) d_X4_least (env 44)) (hd_X4_least : d_X4_least + 1 ≤ d) {d_X5_least : Nat} (h_X5_least : CM l SH E yX5_least cX5_least 2 (some .int) d_X5_least (env 93)) (hd_X5_least : d_X5_least + 1 ≤ d) {d_X4_said : Nat} (h_X4_said : CM l SH E yX4_said cX4_said 3 (some .int) d_X4_said (env 45)) (hd_X4_said : d_X4_said + 1 ≤ d) {d_X5_said : Nat} (h_X5_said : CM l SH E yX5_said cX5_said 3 (some .int) d_X5_said (env 101)) (hd_X5_said : d_X5_said + 1 ≤ d) {d_X4_settles : Nat} (h_X4_settles : CM l SH E yX4_settles cX4_settles 4 (some .int) d_X4_settles (env 46)) (hd_X4_settles : d_X4_settles + 1 ≤ d) {d_X5_settles : Nat} (h_X5_settles : CM l SH E yX5_settles cX5_settles 6 (some .int) d_X5_settles (env 109)) (hd_X5_settles : d_X5_settles + 1 ≤ d) {d_X4_keys : Nat} (h_X4_keys : CM l SH E yX4_keys cX4_keys 3 (some .int) d_X4_keys (env 47)) (hd_X4_keys : d_X4_keys + 1 ≤ d) {d_X5_keys : Nat} (h_X5_keys : CM l SH E yX5_keys cX5_keys 3 (some .int) d_X5_keys (env 112)) (hd_X5_keys : d_X5_keys + 1 ≤ d) {d_X4_key : Nat} (h_X4_key : CM l SH E yX4_key cX4_key 4 (some .int) d_X4_key (env 48)) (hd_X4_key : d_X4_key + 1 ≤ d) {d_X5_key : Nat} (h_X5_key : CM l SH E yX5_key cX5_key 4 (some .int) d_X5_key (env 113)) (hd_X5_key : d_X5_key + 1 ≤ d) {d_X4_tell : Nat} (h_X4_tell : CM l SH E yX4_tell cX4_tell 3 (some .boolean) d_X4_tell (env 49)) (hd_X4_tell : d_X4_tell + 1 ≤ d) {d_X5_tell : Nat} (h_X5_tell : CM l SH E yX5_tell cX5_tell 3 (some .boolean) d_X5_tell (env 114)) (hd_X5_tell : d_X5_tell + 1 ≤ d) {d_X4_told : Nat} (h_X4_told : CM l SH E yX4_told cX4_told 2 (some .int) d_X4_told (env 50)) (hd_X4_told : d_X4_told + 1 ≤ d) {d_X5_told : Nat} (h_X5_told : CM l SH E yX5_told cX5_told 2 (some .int) d_X5_told (env 115)) (hd_X5_told : d_X5_told + 1 ≤ d) {d_X4_mend : Nat} (h_X4_mend : CM l SH E yX4_mend cX4_mend 2 (some .int) d_X4_mend (env 51)) (hd_X4_mend : d_X4_mend + 1 ≤ d) {d_X5_mend : Nat} (h_X5_mend : CM l SH E yX5_mend cX5_mend 10 (some .int) d_X5_mend (env 117)) (hd_X5_mend : d_X5_mend + 1 ≤ d) {d_X4_undo : Nat} (h_X4_undo : CM l SH E yX4_undo cX4_undo 1 (some .boolean) d_X4_undo (env 52)) (hd_X4_undo : d_X4_undo + 1 ≤ d) {d_X5_undo : Nat} (h_X5_undo : CM l SH E yX5_undo cX5_undo 2 (some .boolean) d_X5_undo (env 71)) (hd_X5_undo : d_X5_undo + 1 ≤ d) : ∀ q ∈ T_L_law_1 E env, SS p l e R s m args below meth c cells slots Q D C A ad SH 4 cL_law (some .boolean) q.1 q.2 := by
  unfold T_L_law_1
  refine List.forall_mem_cons.mpr ⟨s_iadd (pc := 180) X (by decide +kernel), ?_⟩
  refine List.forall_mem_cons.mpr ⟨s_iald (pc := 181) X (by decide +kernel), ?_⟩
  refine List.forall_mem_cons.mpr ⟨s_aload_n (pc := 182) X (i := 0) (by decide +kernel) rfl, ?_⟩
  refine List.forall_mem_cons.mpr ⟨s_iload_n (pc := 183) X (i := 3) (by decide +kernel) rfl, ?_⟩
  refine List.forall_mem_cons.mpr ⟨s_iconst (pc := 184) X (n := 3) (by decide +kernel) (by decide), ?_⟩
  refine List.forall_mem_cons.mpr ⟨s_iadd (pc := 185) X (by decide +kernel), ?_⟩
  refine List.forall_mem_cons.mpr ⟨s_iald (pc := 186) X (by decide +kernel), ?_⟩
  refine List.forall_mem_cons.mpr ⟨s_aload_n (pc := 187) X (i := 0) (by decide +kernel) rfl, ?_⟩
  refine List.forall_mem_cons.mpr ⟨s_iload_n (pc := 188) X (i := 3) (by decide +kernel) rfl, ?_⟩
  refine List.forall_mem_cons.mpr ⟨s_iconst (pc := 189) X (n := 4) (by decide +kernel) (by decide), ?_⟩
  refine List.forall_mem_cons.mpr ⟨s_iadd (pc := 190) X (by decide +kernel), ?_⟩
  refine List.forall_mem_cons.mpr ⟨s_iald (pc := 191) X (by decide +kernel), ?_⟩
  refine List.forall_mem_cons.mpr ⟨s_aload_n (pc := 192) X (i := 0) (by decide +kernel) rfl, ?_⟩
  refine List.forall_mem_cons.mpr ⟨s_iload_n (pc := 193) X (i := 3) (by decide +kernel) rfl, ?_⟩
  refine List.forall_mem_cons.mpr ⟨s_iconst (pc := 194) X (n := 5) (by decide +kernel) (by decide), ?_⟩
  refine List.forall_mem_cons.mpr ⟨s_iadd (pc := 195) X (by decide +kernel), ?_⟩
  refine List.forall_mem_cons.mpr ⟨s_iald (pc := 196) X (by decide +kernel), ?_⟩
  refine List.forall_mem_cons.mpr ⟨s_aload_n (pc := 197) X (i := 0) (by decide +kernel) rfl, ?_⟩
  refine List.forall_mem_cons.mpr ⟨s_iload_n (pc := 198) X (i := 3) (by decide +kernel) rfl, ?_⟩
  refine List.forall_mem_cons.mpr ⟨s_bipush (pc := 199) X (n := 6) (by decide +kernel) (by decide), ?_⟩
  refine List.forall_mem_cons.mpr ⟨s_iadd (pc := 201) X (by decide +kernel), ?_⟩
  refine List.forall_mem_cons.mpr ⟨s_iald (pc := 202) X (by decide +kernel), ?_⟩
  refine List.forall_mem_cons.mpr ⟨s_aload_n (pc := 203) X (i := 0) (by decide +kernel) rfl, ?_⟩
  refine List.forall_mem_cons.mpr ⟨s_iload_n (pc := 204) X (i := 3) (by decide +kernel) rfl, ?_⟩
  refine List.forall_mem_cons.mpr ⟨s_bipush (pc := 205) X (n := 7) (by decide +kernel) (by decide), ?_⟩
  refine List.forall_mem_cons.mpr ⟨s_iadd (pc := 207) X (by decide +kernel), ?_⟩
  refine List.forall_mem_cons.mpr ⟨s_iald (pc := 208) X (by decide +kernel), ?_⟩
  refine List.forall_mem_cons.mpr ⟨s_callV (pc := 209) X (idx := 18) (by decide +kernel) h_X4_put rfl lk_RL_18 ls_X4_put lz_X4_put li_RX4 lc_X4_put hv_X4_put ⟨Nat.le_trans hd_X4_put hR.1, Nat.le_trans (by have := hd_X4_put; omega) hR.2⟩ hcs, ?_⟩
  refine List.forall_mem_cons.mpr ⟨s_aload_n (pc := 212) X (i := 2) (by decide +kernel) rfl, ?_⟩
  refine List.forall_mem_cons.mpr ⟨s_aload_n (pc := 213) X (i := 0) (by decide +kernel) rfl, ?_⟩
  refine List.forall_mem_cons.mpr ⟨s_iload_n (pc := 214) X (i := 3) (by decide +kernel) rfl, ?_⟩
  refine List.forall_mem_cons.mpr ⟨s_iconst (pc := 215) X (n := 1) (by decide +kernel) (by decide), ?_⟩
  refine List.forall_mem_cons.mpr ⟨s_iadd (pc := 216) X (by decide +kernel), ?_⟩
  refine List.forall_mem_cons.mpr ⟨s_iald (pc := 217) X (by decide +kernel), ?_⟩
  refine List.forall_mem_cons.mpr ⟨s_aload_n (pc := 218) X (i := 0) (by decide +kernel) rfl, ?_⟩
  refine List.forall_mem_cons.mpr ⟨s_iload_n (pc := 219) X (i := 3) (by decide +kernel) rfl, ?_⟩
  refine List.forall_mem_cons.mpr ⟨s_iconst (pc := 220) X (n := 2) (by decide +kernel) (by decide), ?_⟩
  refine List.forall_mem_cons.mpr ⟨s_iadd (pc := 221) X (by decide +kernel), ?_⟩
  refine List.forall_mem_cons.mpr ⟨s_iald (pc := 222) X (by decide +kernel), ?_⟩
  refine List.forall_mem_cons.mpr ⟨s_aload_n (pc := 223) X (i := 0) (by decide +kernel) rfl, ?_⟩
  exact fun _ h => absurd h List.not_mem_nil
def T_L_law_2 (E : Ex) (env : Nat → Mf) : List (Nat × Stq) := [(224, o_il 225 3),
  (225, o_ic 226 (3)),
  (226, o_b2 227 (fun x y => x + y)),
  (227, o_ia SH E 228),
  (228, o_al 229 0),
  (229, o_il 230 3),
  (230, o_ic 231 (4)),
  (231, o_b2 232 (fun x y => x + y)),
  (232, o_ia SH E 233),
  (233, o_al 234 0),
  (234, o_il 235 3),
  (235, o_ic 236 (5)),
  (236, o_b2 237 (fun x y => x + y)),
  (237, o_ia SH E 238),
  (238, o_al 239 0),
  (239, o_il 240 3),
  (240, o_ic 242 (6)),
  (242, o_b2 243 (fun x y => x + y)),
  (243, o_ia SH E 244),
  (244, o_al 245 0),
  (245, o_il 246 3),
  (246, o_ic 248 (7)),
  (248, o_b2 249 (fun x y => x + y)),
  (249, o_ia SH E 250),
  (250, o_callV SH env 253 74 7 5),
  (253, o_eq 897 256),
  (256, o_ic 257 (0)),
  (257, o_retZ),
  (258, o_al 259 1),
  (259, o_al 260 0),
  (260, o_il 261 3),
  (261, o_ic 262 (1)),
  (262, o_b2 263 (fun x y => x + y)),
  (263, o_ia SH E 264),
  (264, o_al 265 0),
  (265, o_il 266 3),
  (266, o_ic 267 (2)),
  (267, o_b2 268 (fun x y => x + y)),
  (268, o_ia SH E 269),
  (269, o_al 270 0)]
set_option maxRecDepth 100000 in
set_option maxHeartbeats 4000000 in
theorem ts_L_law_2 {p : Program} {l : Launch} {e : Env} {R : Room} {s : State} {m : MethodId} {args : Array Value} {below : List Frame} {meth : Method} {c : Code} {cells slots : Nat} {Q : State → Prop} {D : va_G} {C : CI3} {A : Nat → Prop} {ad : Nat → Nat} {E : Ex} {env : Nat → Mf} {d : Nat} (X : Cx p R s m args c cL_law 4 RL D C A ad SH E) (hR : d ≤ R.frames ∧ 100 * d ≤ R.locals) (hcs : cells ≤ R.cells ∧ slots ≤ R.slots) {d_X4_table : Nat} (h_X4_table : CM l SH E yX4_table cX4_table 2 (some .boolean) d_X4_table (env 28)) (hd_X4_table : d_X4_table + 1 ≤ d) {d_X5_table : Nat} (h_X5_table : CM l SH E yX5_table cX5_table 3 (some .boolean) d_X5_table (env 72)) (hd_X5_table : d_X5_table + 1 ≤ d) {d_X4_put : Nat} (h_X4_put : CM l SH E yX4_put cX4_put 8 (some .boolean) d_X4_put (env 29)) (hd_X4_put : d_X4_put + 1 ≤ d) {d_X5_put : Nat} (h_X5_put : CM l SH E yX5_put cX5_put 11 (some .boolean) d_X5_put (env 74)) (hd_X5_put : d_X5_put + 1 ≤ d) {d_X4_change : Nat} (h_X4_change : CM l SH E yX4_change cX4_change 4 (some .boolean) d_X4_change (env 30)) (hd_X4_change : d_X4_change + 1 ≤ d) {d_X5_change : Nat} (h_X5_change : CM l SH E yX5_change cX5_change 4 (some .boolean) d_X5_change (env 75)) (hd_X5_change : d_X5_change + 1 ≤ d) {d_X4_strike : Nat} (h_X4_strike : CM l SH E yX4_strike cX4_strike 2 (some .boolean) d_X4_strike (env 31)) (hd_X4_strike : d_X4_strike + 1 ≤ d) {d_X5_strike : Nat} (h_X5_strike : CM l SH E yX5_strike cX5_strike 2 (some .boolean) d_X5_strike (env 76)) (hd_X5_strike : d_X5_strike + 1 ≤ d) {d_X4_price : Nat} (h_X4_price : CM l SH E yX4_price cX4_price 3 (some .boolean) d_X4_price (env 32)) (hd_X4_price : d_X4_price + 1 ≤ d) {d_X5_price : Nat} (h_X5_price : CM l SH E yX5_price cX5_price 3 (some .boolean) d_X5_price (env 77)) (hd_X5_price : d_X5_price + 1 ≤ d) {d_X4_swap : Nat} (h_X4_swap : CM l SH E yX4_swap cX4_swap 3 (some .boolean) d_X4_swap (env 33)) (hd_X4_swap : d_X4_swap + 1 ≤ d) {d_X5_swap : Nat} (h_X5_swap : CM l SH E yX5_swap cX5_swap 5 (some .boolean) d_X5_swap (env 78)) (hd_X5_swap : d_X5_swap + 1 ≤ d) {d_X4_at : Nat} (h_X4_at : CM l SH E yX4_at cX4_at 3 (some .int) d_X4_at (env 34)) (hd_X4_at : d_X4_at + 1 ≤ d) {d_X5_at : Nat} (h_X5_at : CM l SH E yX5_at cX5_at 3 (some .int) d_X5_at (env 79)) (hd_X5_at : d_X5_at + 1 ≤ d) {d_X4_row : Nat} (h_X4_row : CM l SH E yX4_row cX4_row 3 (some .int) d_X4_row (env 35)) (hd_X4_row : d_X4_row + 1 ≤ d) {d_X5_row : Nat} (h_X5_row : CM l SH E yX5_row cX5_row 3 (some .int) d_X5_row (env 80)) (hd_X5_row : d_X5_row + 1 ≤ d) {d_X4_between : Nat} (h_X4_between : CM l SH E yX4_between cX4_between 3 (some .int) d_X4_between (env 36)) (hd_X4_between : d_X4_between + 1 ≤ d) {d_X5_between : Nat} (h_X5_between : CM l SH E yX5_between cX5_between 3 (some .int) d_X5_between (env 85)) (hd_X5_between : d_X5_between + 1 ≤ d) {d_X4_pairs : Nat} (h_X4_pairs : CM l SH E yX4_pairs cX4_pairs 2 (some .int) d_X4_pairs (env 37)) (hd_X4_pairs : d_X4_pairs + 1 ≤ d) {d_X5_pairs : Nat} (h_X5_pairs : CM l SH E yX5_pairs cX5_pairs 3 (some .int) d_X5_pairs (env 88)) (hd_X5_pairs : d_X5_pairs + 1 ≤ d) {d_X4_kinds : Nat} (h_X4_kinds : CM l SH E yX4_kinds cX4_kinds 1 (some .int) d_X4_kinds (env 38)) (hd_X4_kinds : d_X4_kinds + 1 ≤ d) {d_X5_kinds : Nat} (h_X5_kinds : CM l SH E yX5_kinds cX5_kinds 3 (some .int) d_X5_kinds (env 89)) (hd_X5_kinds : d_X5_kinds + 1 ≤ d) {d_X4_broken : Nat} (h_X4_broken : CM l SH E yX4_broken cX4_broken 2 (some .int) d_X4_broken (env 39)) (hd_X4_broken : d_X4_broken + 1 ≤ d) {d_X5_broken : Nat} (h_X5_broken : CM l SH E yX5_broken cX5_broken 2 (some .int) d_X5_broken (env 97)) (hd_X5_broken : d_X5_broken + 1 ≤ d) {d_X4_breaker : Nat} (h_X4_breaker : CM l SH E yX4_breaker cX4_breaker 7 (some .int) d_X4_breaker (env 40)) (hd_X4_breaker : d_X4_breaker + 1 ≤ d) {d_X5_breaker : Nat} (h_X5_breaker : CM l SH E yX5_breaker cX5_breaker 7 (some .int) d_X5_breaker (env 98)) (hd_X5_breaker : d_X5_breaker + 1 ≤ d) {d_X4_laws : Nat} (h_X4_laws : CM l SH E yX4_laws cX4_laws 5 (some .int) d_X4_laws (env 41)) (hd_X4_laws : d_X4_laws + 1 ≤ d) {d_X5_laws : Nat} (h_X5_laws : CM l SH E yX5_laws cX5_laws 3 (some .int) d_X5_laws (env 104)) (hd_X5_laws : d_X5_laws + 1 ≤ d) {d_X4_law : Nat} (h_X4_law : CM l SH E yX4_law cX4_law 6 (some .int) d_X4_law (env 42)) (hd_X4_law : d_X4_law + 1 ≤ d) {d_X5_law : Nat} (h_X5_law : CM l SH E yX5_law cX5_law 4 (some .int) d_X5_law (env 105)) (hd_X5_law : d_X5_law + 1 ≤ d) {d_X4_sort : Nat} (h_X4_sort : CM l SH E yX4_sort cX4_sort 6 (some .int) d_X4_sort (env 43)) (hd_X4_sort : d_X4_sort + 1 ≤ d) {d_X5_sort : Nat} (h_X5_sort : CM l SH E yX5_sort cX5_sort 7 (some .int) d_X5_sort (env 106)) (hd_X5_sort : d_X5_sort + 1 ≤ d) {d_X4_least : Nat} (h_X4_least : CM l SH E yX4_least cX4_least 2 (some .int) d_X4_least (env 44)) (hd_X4_least : d_X4_least + 1 ≤ d) {d_X5_least : Nat} (h_X5_least : CM l SH E yX5_least cX5_least 2 (some .int) d_X5_least (env 93)) (hd_X5_least : d_X5_least + 1 ≤ d) {d_X4_said : Nat} (h_X4_said : CM l SH E yX4_said cX4_said 3 (some .int) d_X4_said (env 45)) (hd_X4_said : d_X4_said + 1 ≤ d) {d_X5_said : Nat} (h_X5_said : CM l SH E yX5_said cX5_said 3 (some .int) d_X5_said (env 101)) (hd_X5_said : d_X5_said + 1 ≤ d) {d_X4_settles : Nat} (h_X4_settles : CM l SH E yX4_settles cX4_settles 4 (some .int) d_X4_settles (env 46)) (hd_X4_settles : d_X4_settles + 1 ≤ d) {d_X5_settles : Nat} (h_X5_settles : CM l SH E yX5_settles cX5_settles 6 (some .int) d_X5_settles (env 109)) (hd_X5_settles : d_X5_settles + 1 ≤ d) {d_X4_keys : Nat} (h_X4_keys : CM l SH E yX4_keys cX4_keys 3 (some .int) d_X4_keys (env 47)) (hd_X4_keys : d_X4_keys + 1 ≤ d) {d_X5_keys : Nat} (h_X5_keys : CM l SH E yX5_keys cX5_keys 3 (some .int) d_X5_keys (env 112)) (hd_X5_keys : d_X5_keys + 1 ≤ d) {d_X4_key : Nat} (h_X4_key : CM l SH E yX4_key cX4_key 4 (some .int) d_X4_key (env 48)) (hd_X4_key : d_X4_key + 1 ≤ d) {d_X5_key : Nat} (h_X5_key : CM l SH E yX5_key cX5_key 4 (some .int) d_X5_key (env 113)) (hd_X5_key : d_X5_key + 1 ≤ d) {d_X4_tell : Nat} (h_X4_tell : CM l SH E yX4_tell cX4_tell 3 (some .boolean) d_X4_tell (env 49)) (hd_X4_tell : d_X4_tell + 1 ≤ d) {d_X5_tell : Nat} (h_X5_tell : CM l SH E yX5_tell cX5_tell 3 (some .boolean) d_X5_tell (env 114)) (hd_X5_tell : d_X5_tell + 1 ≤ d) {d_X4_told : Nat} (h_X4_told : CM l SH E yX4_told cX4_told 2 (some .int) d_X4_told (env 50)) (hd_X4_told : d_X4_told + 1 ≤ d) {d_X5_told : Nat} (h_X5_told : CM l SH E yX5_told cX5_told 2 (some .int) d_X5_told (env 115)) (hd_X5_told : d_X5_told + 1 ≤ d) {d_X4_mend : Nat} (h_X4_mend : CM l SH E yX4_mend cX4_mend 2 (some .int) d_X4_mend (env 51)) (hd_X4_mend : d_X4_mend + 1 ≤ d) {d_X5_mend : Nat} (h_X5_mend : CM l SH E yX5_mend cX5_mend 10 (some .int) d_X5_mend (env 117)) (hd_X5_mend : d_X5_mend + 1 ≤ d) {d_X4_undo : Nat} (h_X4_undo : CM l SH E yX4_undo cX4_undo 1 (some .boolean) d_X4_undo (env 52)) (hd_X4_undo : d_X4_undo + 1 ≤ d) {d_X5_undo : Nat} (h_X5_undo : CM l SH E yX5_undo cX5_undo 2 (some .boolean) d_X5_undo (env 71)) (hd_X5_undo : d_X5_undo + 1 ≤ d) : ∀ q ∈ T_L_law_2 E env, SS p l e R s m args below meth c cells slots Q D C A ad SH 4 cL_law (some .boolean) q.1 q.2 := by
  unfold T_L_law_2
  refine List.forall_mem_cons.mpr ⟨s_iload_n (pc := 224) X (i := 3) (by decide +kernel) rfl, ?_⟩
  refine List.forall_mem_cons.mpr ⟨s_iconst (pc := 225) X (n := 3) (by decide +kernel) (by decide), ?_⟩
  refine List.forall_mem_cons.mpr ⟨s_iadd (pc := 226) X (by decide +kernel), ?_⟩
  refine List.forall_mem_cons.mpr ⟨s_iald (pc := 227) X (by decide +kernel), ?_⟩
  refine List.forall_mem_cons.mpr ⟨s_aload_n (pc := 228) X (i := 0) (by decide +kernel) rfl, ?_⟩
  refine List.forall_mem_cons.mpr ⟨s_iload_n (pc := 229) X (i := 3) (by decide +kernel) rfl, ?_⟩
  refine List.forall_mem_cons.mpr ⟨s_iconst (pc := 230) X (n := 4) (by decide +kernel) (by decide), ?_⟩
  refine List.forall_mem_cons.mpr ⟨s_iadd (pc := 231) X (by decide +kernel), ?_⟩
  refine List.forall_mem_cons.mpr ⟨s_iald (pc := 232) X (by decide +kernel), ?_⟩
  refine List.forall_mem_cons.mpr ⟨s_aload_n (pc := 233) X (i := 0) (by decide +kernel) rfl, ?_⟩
  refine List.forall_mem_cons.mpr ⟨s_iload_n (pc := 234) X (i := 3) (by decide +kernel) rfl, ?_⟩
  refine List.forall_mem_cons.mpr ⟨s_iconst (pc := 235) X (n := 5) (by decide +kernel) (by decide), ?_⟩
  refine List.forall_mem_cons.mpr ⟨s_iadd (pc := 236) X (by decide +kernel), ?_⟩
  refine List.forall_mem_cons.mpr ⟨s_iald (pc := 237) X (by decide +kernel), ?_⟩
  refine List.forall_mem_cons.mpr ⟨s_aload_n (pc := 238) X (i := 0) (by decide +kernel) rfl, ?_⟩
  refine List.forall_mem_cons.mpr ⟨s_iload_n (pc := 239) X (i := 3) (by decide +kernel) rfl, ?_⟩
  refine List.forall_mem_cons.mpr ⟨s_bipush (pc := 240) X (n := 6) (by decide +kernel) (by decide), ?_⟩
  refine List.forall_mem_cons.mpr ⟨s_iadd (pc := 242) X (by decide +kernel), ?_⟩
  refine List.forall_mem_cons.mpr ⟨s_iald (pc := 243) X (by decide +kernel), ?_⟩
  refine List.forall_mem_cons.mpr ⟨s_aload_n (pc := 244) X (i := 0) (by decide +kernel) rfl, ?_⟩
  refine List.forall_mem_cons.mpr ⟨s_iload_n (pc := 245) X (i := 3) (by decide +kernel) rfl, ?_⟩
  refine List.forall_mem_cons.mpr ⟨s_bipush (pc := 246) X (n := 7) (by decide +kernel) (by decide), ?_⟩
  refine List.forall_mem_cons.mpr ⟨s_iadd (pc := 248) X (by decide +kernel), ?_⟩
  refine List.forall_mem_cons.mpr ⟨s_iald (pc := 249) X (by decide +kernel), ?_⟩
  refine List.forall_mem_cons.mpr ⟨s_callV (pc := 250) X (idx := 22) (by decide +kernel) h_X5_put rfl lk_RL_22 ls_X5_put lz_X5_put li_RX5 lc_X5_put hv_X5_put ⟨Nat.le_trans hd_X5_put hR.1, Nat.le_trans (by have := hd_X5_put; omega) hR.2⟩ hcs, ?_⟩
  refine List.forall_mem_cons.mpr ⟨s_eq (pc := 253) X (off := 644) (by decide +kernel) (by decide), ?_⟩
  refine List.forall_mem_cons.mpr ⟨s_iconst (pc := 256) X (n := 0) (by decide +kernel) (by decide), ?_⟩
  refine List.forall_mem_cons.mpr ⟨s_retZ (pc := 257) (by decide +kernel), ?_⟩
  refine List.forall_mem_cons.mpr ⟨s_aload_n (pc := 258) X (i := 1) (by decide +kernel) rfl, ?_⟩
  refine List.forall_mem_cons.mpr ⟨s_aload_n (pc := 259) X (i := 0) (by decide +kernel) rfl, ?_⟩
  refine List.forall_mem_cons.mpr ⟨s_iload_n (pc := 260) X (i := 3) (by decide +kernel) rfl, ?_⟩
  refine List.forall_mem_cons.mpr ⟨s_iconst (pc := 261) X (n := 1) (by decide +kernel) (by decide), ?_⟩
  refine List.forall_mem_cons.mpr ⟨s_iadd (pc := 262) X (by decide +kernel), ?_⟩
  refine List.forall_mem_cons.mpr ⟨s_iald (pc := 263) X (by decide +kernel), ?_⟩
  refine List.forall_mem_cons.mpr ⟨s_aload_n (pc := 264) X (i := 0) (by decide +kernel) rfl, ?_⟩
  refine List.forall_mem_cons.mpr ⟨s_iload_n (pc := 265) X (i := 3) (by decide +kernel) rfl, ?_⟩
  refine List.forall_mem_cons.mpr ⟨s_iconst (pc := 266) X (n := 2) (by decide +kernel) (by decide), ?_⟩
  refine List.forall_mem_cons.mpr ⟨s_iadd (pc := 267) X (by decide +kernel), ?_⟩
  refine List.forall_mem_cons.mpr ⟨s_iald (pc := 268) X (by decide +kernel), ?_⟩
  refine List.forall_mem_cons.mpr ⟨s_aload_n (pc := 269) X (i := 0) (by decide +kernel) rfl, ?_⟩
  exact fun _ h => absurd h List.not_mem_nil
def T_L_law_3 (E : Ex) (env : Nat → Mf) : List (Nat × Stq) := [(270, o_il 271 3),
  (271, o_ic 272 (3)),
  (272, o_b2 273 (fun x y => x + y)),
  (273, o_ia SH E 274),
  (274, o_callV SH env 277 30 3 4),
  (277, o_al 278 2),
  (278, o_al 279 0),
  (279, o_il 280 3),
  (280, o_ic 281 (1)),
  (281, o_b2 282 (fun x y => x + y)),
  (282, o_ia SH E 283),
  (283, o_al 284 0),
  (284, o_il 285 3),
  (285, o_ic 286 (2)),
  (286, o_b2 287 (fun x y => x + y)),
  (287, o_ia SH E 288),
  (288, o_al 289 0),
  (289, o_il 290 3),
  (290, o_ic 291 (3)),
  (291, o_b2 292 (fun x y => x + y)),
  (292, o_ia SH E 293),
  (293, o_callV SH env 296 75 3 5),
  (296, o_eq 897 299),
  (299, o_ic 300 (0)),
  (300, o_retZ),
  (301, o_al 302 1),
  (302, o_al 303 0),
  (303, o_il 304 3),
  (304, o_ic 305 (1)),
  (305, o_b2 306 (fun x y => x + y)),
  (306, o_ia SH E 307),
  (307, o_callV SH env 310 31 1 4),
  (310, o_al 311 2),
  (311, o_al 312 0),
  (312, o_il 313 3),
  (313, o_ic 314 (1)),
  (314, o_b2 315 (fun x y => x + y)),
  (315, o_ia SH E 316),
  (316, o_callV SH env 319 76 1 5),
  (319, o_eq 897 322)]
set_option maxRecDepth 100000 in
set_option maxHeartbeats 4000000 in
theorem ts_L_law_3 {p : Program} {l : Launch} {e : Env} {R : Room} {s : State} {m : MethodId} {args : Array Value} {below : List Frame} {meth : Method} {c : Code} {cells slots : Nat} {Q : State → Prop} {D : va_G} {C : CI3} {A : Nat → Prop} {ad : Nat → Nat} {E : Ex} {env : Nat → Mf} {d : Nat} (X : Cx p R s m args c cL_law 4 RL D C A ad SH E) (hR : d ≤ R.frames ∧ 100 * d ≤ R.locals) (hcs : cells ≤ R.cells ∧ slots ≤ R.slots) {d_X4_table : Nat} (h_X4_table : CM l SH E yX4_table cX4_table 2 (some .boolean) d_X4_table (env 28)) (hd_X4_table : d_X4_table + 1 ≤ d) {d_X5_table : Nat} (h_X5_table : CM l SH E yX5_table cX5_table 3 (some .boolean) d_X5_table (env 72)) (hd_X5_table : d_X5_table + 1 ≤ d) {d_X4_put : Nat} (h_X4_put : CM l SH E yX4_put cX4_put 8 (some .boolean) d_X4_put (env 29)) (hd_X4_put : d_X4_put + 1 ≤ d) {d_X5_put : Nat} (h_X5_put : CM l SH E yX5_put cX5_put 11 (some .boolean) d_X5_put (env 74)) (hd_X5_put : d_X5_put + 1 ≤ d) {d_X4_change : Nat} (h_X4_change : CM l SH E yX4_change cX4_change 4 (some .boolean) d_X4_change (env 30)) (hd_X4_change : d_X4_change + 1 ≤ d) {d_X5_change : Nat} (h_X5_change : CM l SH E yX5_change cX5_change 4 (some .boolean) d_X5_change (env 75)) (hd_X5_change : d_X5_change + 1 ≤ d) {d_X4_strike : Nat} (h_X4_strike : CM l SH E yX4_strike cX4_strike 2 (some .boolean) d_X4_strike (env 31)) (hd_X4_strike : d_X4_strike + 1 ≤ d) {d_X5_strike : Nat} (h_X5_strike : CM l SH E yX5_strike cX5_strike 2 (some .boolean) d_X5_strike (env 76)) (hd_X5_strike : d_X5_strike + 1 ≤ d) {d_X4_price : Nat} (h_X4_price : CM l SH E yX4_price cX4_price 3 (some .boolean) d_X4_price (env 32)) (hd_X4_price : d_X4_price + 1 ≤ d) {d_X5_price : Nat} (h_X5_price : CM l SH E yX5_price cX5_price 3 (some .boolean) d_X5_price (env 77)) (hd_X5_price : d_X5_price + 1 ≤ d) {d_X4_swap : Nat} (h_X4_swap : CM l SH E yX4_swap cX4_swap 3 (some .boolean) d_X4_swap (env 33)) (hd_X4_swap : d_X4_swap + 1 ≤ d) {d_X5_swap : Nat} (h_X5_swap : CM l SH E yX5_swap cX5_swap 5 (some .boolean) d_X5_swap (env 78)) (hd_X5_swap : d_X5_swap + 1 ≤ d) {d_X4_at : Nat} (h_X4_at : CM l SH E yX4_at cX4_at 3 (some .int) d_X4_at (env 34)) (hd_X4_at : d_X4_at + 1 ≤ d) {d_X5_at : Nat} (h_X5_at : CM l SH E yX5_at cX5_at 3 (some .int) d_X5_at (env 79)) (hd_X5_at : d_X5_at + 1 ≤ d) {d_X4_row : Nat} (h_X4_row : CM l SH E yX4_row cX4_row 3 (some .int) d_X4_row (env 35)) (hd_X4_row : d_X4_row + 1 ≤ d) {d_X5_row : Nat} (h_X5_row : CM l SH E yX5_row cX5_row 3 (some .int) d_X5_row (env 80)) (hd_X5_row : d_X5_row + 1 ≤ d) {d_X4_between : Nat} (h_X4_between : CM l SH E yX4_between cX4_between 3 (some .int) d_X4_between (env 36)) (hd_X4_between : d_X4_between + 1 ≤ d) {d_X5_between : Nat} (h_X5_between : CM l SH E yX5_between cX5_between 3 (some .int) d_X5_between (env 85)) (hd_X5_between : d_X5_between + 1 ≤ d) {d_X4_pairs : Nat} (h_X4_pairs : CM l SH E yX4_pairs cX4_pairs 2 (some .int) d_X4_pairs (env 37)) (hd_X4_pairs : d_X4_pairs + 1 ≤ d) {d_X5_pairs : Nat} (h_X5_pairs : CM l SH E yX5_pairs cX5_pairs 3 (some .int) d_X5_pairs (env 88)) (hd_X5_pairs : d_X5_pairs + 1 ≤ d) {d_X4_kinds : Nat} (h_X4_kinds : CM l SH E yX4_kinds cX4_kinds 1 (some .int) d_X4_kinds (env 38)) (hd_X4_kinds : d_X4_kinds + 1 ≤ d) {d_X5_kinds : Nat} (h_X5_kinds : CM l SH E yX5_kinds cX5_kinds 3 (some .int) d_X5_kinds (env 89)) (hd_X5_kinds : d_X5_kinds + 1 ≤ d) {d_X4_broken : Nat} (h_X4_broken : CM l SH E yX4_broken cX4_broken 2 (some .int) d_X4_broken (env 39)) (hd_X4_broken : d_X4_broken + 1 ≤ d) {d_X5_broken : Nat} (h_X5_broken : CM l SH E yX5_broken cX5_broken 2 (some .int) d_X5_broken (env 97)) (hd_X5_broken : d_X5_broken + 1 ≤ d) {d_X4_breaker : Nat} (h_X4_breaker : CM l SH E yX4_breaker cX4_breaker 7 (some .int) d_X4_breaker (env 40)) (hd_X4_breaker : d_X4_breaker + 1 ≤ d) {d_X5_breaker : Nat} (h_X5_breaker : CM l SH E yX5_breaker cX5_breaker 7 (some .int) d_X5_breaker (env 98)) (hd_X5_breaker : d_X5_breaker + 1 ≤ d) {d_X4_laws : Nat} (h_X4_laws : CM l SH E yX4_laws cX4_laws 5 (some .int) d_X4_laws (env 41)) (hd_X4_laws : d_X4_laws + 1 ≤ d) {d_X5_laws : Nat} (h_X5_laws : CM l SH E yX5_laws cX5_laws 3 (some .int) d_X5_laws (env 104)) (hd_X5_laws : d_X5_laws + 1 ≤ d) {d_X4_law : Nat} (h_X4_law : CM l SH E yX4_law cX4_law 6 (some .int) d_X4_law (env 42)) (hd_X4_law : d_X4_law + 1 ≤ d) {d_X5_law : Nat} (h_X5_law : CM l SH E yX5_law cX5_law 4 (some .int) d_X5_law (env 105)) (hd_X5_law : d_X5_law + 1 ≤ d) {d_X4_sort : Nat} (h_X4_sort : CM l SH E yX4_sort cX4_sort 6 (some .int) d_X4_sort (env 43)) (hd_X4_sort : d_X4_sort + 1 ≤ d) {d_X5_sort : Nat} (h_X5_sort : CM l SH E yX5_sort cX5_sort 7 (some .int) d_X5_sort (env 106)) (hd_X5_sort : d_X5_sort + 1 ≤ d) {d_X4_least : Nat} (h_X4_least : CM l SH E yX4_least cX4_least 2 (some .int) d_X4_least (env 44)) (hd_X4_least : d_X4_least + 1 ≤ d) {d_X5_least : Nat} (h_X5_least : CM l SH E yX5_least cX5_least 2 (some .int) d_X5_least (env 93)) (hd_X5_least : d_X5_least + 1 ≤ d) {d_X4_said : Nat} (h_X4_said : CM l SH E yX4_said cX4_said 3 (some .int) d_X4_said (env 45)) (hd_X4_said : d_X4_said + 1 ≤ d) {d_X5_said : Nat} (h_X5_said : CM l SH E yX5_said cX5_said 3 (some .int) d_X5_said (env 101)) (hd_X5_said : d_X5_said + 1 ≤ d) {d_X4_settles : Nat} (h_X4_settles : CM l SH E yX4_settles cX4_settles 4 (some .int) d_X4_settles (env 46)) (hd_X4_settles : d_X4_settles + 1 ≤ d) {d_X5_settles : Nat} (h_X5_settles : CM l SH E yX5_settles cX5_settles 6 (some .int) d_X5_settles (env 109)) (hd_X5_settles : d_X5_settles + 1 ≤ d) {d_X4_keys : Nat} (h_X4_keys : CM l SH E yX4_keys cX4_keys 3 (some .int) d_X4_keys (env 47)) (hd_X4_keys : d_X4_keys + 1 ≤ d) {d_X5_keys : Nat} (h_X5_keys : CM l SH E yX5_keys cX5_keys 3 (some .int) d_X5_keys (env 112)) (hd_X5_keys : d_X5_keys + 1 ≤ d) {d_X4_key : Nat} (h_X4_key : CM l SH E yX4_key cX4_key 4 (some .int) d_X4_key (env 48)) (hd_X4_key : d_X4_key + 1 ≤ d) {d_X5_key : Nat} (h_X5_key : CM l SH E yX5_key cX5_key 4 (some .int) d_X5_key (env 113)) (hd_X5_key : d_X5_key + 1 ≤ d) {d_X4_tell : Nat} (h_X4_tell : CM l SH E yX4_tell cX4_tell 3 (some .boolean) d_X4_tell (env 49)) (hd_X4_tell : d_X4_tell + 1 ≤ d) {d_X5_tell : Nat} (h_X5_tell : CM l SH E yX5_tell cX5_tell 3 (some .boolean) d_X5_tell (env 114)) (hd_X5_tell : d_X5_tell + 1 ≤ d) {d_X4_told : Nat} (h_X4_told : CM l SH E yX4_told cX4_told 2 (some .int) d_X4_told (env 50)) (hd_X4_told : d_X4_told + 1 ≤ d) {d_X5_told : Nat} (h_X5_told : CM l SH E yX5_told cX5_told 2 (some .int) d_X5_told (env 115)) (hd_X5_told : d_X5_told + 1 ≤ d) {d_X4_mend : Nat} (h_X4_mend : CM l SH E yX4_mend cX4_mend 2 (some .int) d_X4_mend (env 51)) (hd_X4_mend : d_X4_mend + 1 ≤ d) {d_X5_mend : Nat} (h_X5_mend : CM l SH E yX5_mend cX5_mend 10 (some .int) d_X5_mend (env 117)) (hd_X5_mend : d_X5_mend + 1 ≤ d) {d_X4_undo : Nat} (h_X4_undo : CM l SH E yX4_undo cX4_undo 1 (some .boolean) d_X4_undo (env 52)) (hd_X4_undo : d_X4_undo + 1 ≤ d) {d_X5_undo : Nat} (h_X5_undo : CM l SH E yX5_undo cX5_undo 2 (some .boolean) d_X5_undo (env 71)) (hd_X5_undo : d_X5_undo + 1 ≤ d) : ∀ q ∈ T_L_law_3 E env, SS p l e R s m args below meth c cells slots Q D C A ad SH 4 cL_law (some .boolean) q.1 q.2 := by
  unfold T_L_law_3
  refine List.forall_mem_cons.mpr ⟨s_iload_n (pc := 270) X (i := 3) (by decide +kernel) rfl, ?_⟩
  refine List.forall_mem_cons.mpr ⟨s_iconst (pc := 271) X (n := 3) (by decide +kernel) (by decide), ?_⟩
  refine List.forall_mem_cons.mpr ⟨s_iadd (pc := 272) X (by decide +kernel), ?_⟩
  refine List.forall_mem_cons.mpr ⟨s_iald (pc := 273) X (by decide +kernel), ?_⟩
  refine List.forall_mem_cons.mpr ⟨s_callV (pc := 274) X (idx := 23) (by decide +kernel) h_X4_change rfl lk_RL_23 ls_X4_change lz_X4_change li_RX4 lc_X4_change hv_X4_change ⟨Nat.le_trans hd_X4_change hR.1, Nat.le_trans (by have := hd_X4_change; omega) hR.2⟩ hcs, ?_⟩
  refine List.forall_mem_cons.mpr ⟨s_aload_n (pc := 277) X (i := 2) (by decide +kernel) rfl, ?_⟩
  refine List.forall_mem_cons.mpr ⟨s_aload_n (pc := 278) X (i := 0) (by decide +kernel) rfl, ?_⟩
  refine List.forall_mem_cons.mpr ⟨s_iload_n (pc := 279) X (i := 3) (by decide +kernel) rfl, ?_⟩
  refine List.forall_mem_cons.mpr ⟨s_iconst (pc := 280) X (n := 1) (by decide +kernel) (by decide), ?_⟩
  refine List.forall_mem_cons.mpr ⟨s_iadd (pc := 281) X (by decide +kernel), ?_⟩
  refine List.forall_mem_cons.mpr ⟨s_iald (pc := 282) X (by decide +kernel), ?_⟩
  refine List.forall_mem_cons.mpr ⟨s_aload_n (pc := 283) X (i := 0) (by decide +kernel) rfl, ?_⟩
  refine List.forall_mem_cons.mpr ⟨s_iload_n (pc := 284) X (i := 3) (by decide +kernel) rfl, ?_⟩
  refine List.forall_mem_cons.mpr ⟨s_iconst (pc := 285) X (n := 2) (by decide +kernel) (by decide), ?_⟩
  refine List.forall_mem_cons.mpr ⟨s_iadd (pc := 286) X (by decide +kernel), ?_⟩
  refine List.forall_mem_cons.mpr ⟨s_iald (pc := 287) X (by decide +kernel), ?_⟩
  refine List.forall_mem_cons.mpr ⟨s_aload_n (pc := 288) X (i := 0) (by decide +kernel) rfl, ?_⟩
  refine List.forall_mem_cons.mpr ⟨s_iload_n (pc := 289) X (i := 3) (by decide +kernel) rfl, ?_⟩
  refine List.forall_mem_cons.mpr ⟨s_iconst (pc := 290) X (n := 3) (by decide +kernel) (by decide), ?_⟩
  refine List.forall_mem_cons.mpr ⟨s_iadd (pc := 291) X (by decide +kernel), ?_⟩
  refine List.forall_mem_cons.mpr ⟨s_iald (pc := 292) X (by decide +kernel), ?_⟩
  refine List.forall_mem_cons.mpr ⟨s_callV (pc := 293) X (idx := 27) (by decide +kernel) h_X5_change rfl lk_RL_27 ls_X5_change lz_X5_change li_RX5 lc_X5_change hv_X5_change ⟨Nat.le_trans hd_X5_change hR.1, Nat.le_trans (by have := hd_X5_change; omega) hR.2⟩ hcs, ?_⟩
  refine List.forall_mem_cons.mpr ⟨s_eq (pc := 296) X (off := 601) (by decide +kernel) (by decide), ?_⟩
  refine List.forall_mem_cons.mpr ⟨s_iconst (pc := 299) X (n := 0) (by decide +kernel) (by decide), ?_⟩
  refine List.forall_mem_cons.mpr ⟨s_retZ (pc := 300) (by decide +kernel), ?_⟩
  refine List.forall_mem_cons.mpr ⟨s_aload_n (pc := 301) X (i := 1) (by decide +kernel) rfl, ?_⟩
  refine List.forall_mem_cons.mpr ⟨s_aload_n (pc := 302) X (i := 0) (by decide +kernel) rfl, ?_⟩
  refine List.forall_mem_cons.mpr ⟨s_iload_n (pc := 303) X (i := 3) (by decide +kernel) rfl, ?_⟩
  refine List.forall_mem_cons.mpr ⟨s_iconst (pc := 304) X (n := 1) (by decide +kernel) (by decide), ?_⟩
  refine List.forall_mem_cons.mpr ⟨s_iadd (pc := 305) X (by decide +kernel), ?_⟩
  refine List.forall_mem_cons.mpr ⟨s_iald (pc := 306) X (by decide +kernel), ?_⟩
  refine List.forall_mem_cons.mpr ⟨s_callV (pc := 307) X (idx := 28) (by decide +kernel) h_X4_strike rfl lk_RL_28 ls_X4_strike lz_X4_strike li_RX4 lc_X4_strike hv_X4_strike ⟨Nat.le_trans hd_X4_strike hR.1, Nat.le_trans (by have := hd_X4_strike; omega) hR.2⟩ hcs, ?_⟩
  refine List.forall_mem_cons.mpr ⟨s_aload_n (pc := 310) X (i := 2) (by decide +kernel) rfl, ?_⟩
  refine List.forall_mem_cons.mpr ⟨s_aload_n (pc := 311) X (i := 0) (by decide +kernel) rfl, ?_⟩
  refine List.forall_mem_cons.mpr ⟨s_iload_n (pc := 312) X (i := 3) (by decide +kernel) rfl, ?_⟩
  refine List.forall_mem_cons.mpr ⟨s_iconst (pc := 313) X (n := 1) (by decide +kernel) (by decide), ?_⟩
  refine List.forall_mem_cons.mpr ⟨s_iadd (pc := 314) X (by decide +kernel), ?_⟩
  refine List.forall_mem_cons.mpr ⟨s_iald (pc := 315) X (by decide +kernel), ?_⟩
  refine List.forall_mem_cons.mpr ⟨s_callV (pc := 316) X (idx := 31) (by decide +kernel) h_X5_strike rfl lk_RL_31 ls_X5_strike lz_X5_strike li_RX5 lc_X5_strike hv_X5_strike ⟨Nat.le_trans hd_X5_strike hR.1, Nat.le_trans (by have := hd_X5_strike; omega) hR.2⟩ hcs, ?_⟩
  refine List.forall_mem_cons.mpr ⟨s_eq (pc := 319) X (off := 578) (by decide +kernel) (by decide), ?_⟩
  exact fun _ h => absurd h List.not_mem_nil
def T_L_law_4 (E : Ex) (env : Nat → Mf) : List (Nat × Stq) := [(322, o_ic 323 (0)),
  (323, o_retZ),
  (324, o_al 325 1),
  (325, o_al 326 0),
  (326, o_il 327 3),
  (327, o_ic 328 (1)),
  (328, o_b2 329 (fun x y => x + y)),
  (329, o_ia SH E 330),
  (330, o_al 331 0),
  (331, o_il 332 3),
  (332, o_ic 333 (2)),
  (333, o_b2 334 (fun x y => x + y)),
  (334, o_ia SH E 335),
  (335, o_callV SH env 338 32 2 4),
  (338, o_al 339 2),
  (339, o_al 340 0),
  (340, o_il 341 3),
  (341, o_ic 342 (1)),
  (342, o_b2 343 (fun x y => x + y)),
  (343, o_ia SH E 344),
  (344, o_al 345 0),
  (345, o_il 346 3),
  (346, o_ic 347 (2)),
  (347, o_b2 348 (fun x y => x + y)),
  (348, o_ia SH E 349),
  (349, o_callV SH env 352 77 2 5),
  (352, o_eq 897 355),
  (355, o_ic 356 (0)),
  (356, o_retZ),
  (357, o_al 358 1),
  (358, o_al 359 0),
  (359, o_il 360 3),
  (360, o_ic 361 (1)),
  (361, o_b2 362 (fun x y => x + y)),
  (362, o_ia SH E 363),
  (363, o_al 364 0),
  (364, o_il 365 3),
  (365, o_ic 366 (2)),
  (366, o_b2 367 (fun x y => x + y)),
  (367, o_ia SH E 368)]
set_option maxRecDepth 100000 in
set_option maxHeartbeats 4000000 in
theorem ts_L_law_4 {p : Program} {l : Launch} {e : Env} {R : Room} {s : State} {m : MethodId} {args : Array Value} {below : List Frame} {meth : Method} {c : Code} {cells slots : Nat} {Q : State → Prop} {D : va_G} {C : CI3} {A : Nat → Prop} {ad : Nat → Nat} {E : Ex} {env : Nat → Mf} {d : Nat} (X : Cx p R s m args c cL_law 4 RL D C A ad SH E) (hR : d ≤ R.frames ∧ 100 * d ≤ R.locals) (hcs : cells ≤ R.cells ∧ slots ≤ R.slots) {d_X4_table : Nat} (h_X4_table : CM l SH E yX4_table cX4_table 2 (some .boolean) d_X4_table (env 28)) (hd_X4_table : d_X4_table + 1 ≤ d) {d_X5_table : Nat} (h_X5_table : CM l SH E yX5_table cX5_table 3 (some .boolean) d_X5_table (env 72)) (hd_X5_table : d_X5_table + 1 ≤ d) {d_X4_put : Nat} (h_X4_put : CM l SH E yX4_put cX4_put 8 (some .boolean) d_X4_put (env 29)) (hd_X4_put : d_X4_put + 1 ≤ d) {d_X5_put : Nat} (h_X5_put : CM l SH E yX5_put cX5_put 11 (some .boolean) d_X5_put (env 74)) (hd_X5_put : d_X5_put + 1 ≤ d) {d_X4_change : Nat} (h_X4_change : CM l SH E yX4_change cX4_change 4 (some .boolean) d_X4_change (env 30)) (hd_X4_change : d_X4_change + 1 ≤ d) {d_X5_change : Nat} (h_X5_change : CM l SH E yX5_change cX5_change 4 (some .boolean) d_X5_change (env 75)) (hd_X5_change : d_X5_change + 1 ≤ d) {d_X4_strike : Nat} (h_X4_strike : CM l SH E yX4_strike cX4_strike 2 (some .boolean) d_X4_strike (env 31)) (hd_X4_strike : d_X4_strike + 1 ≤ d) {d_X5_strike : Nat} (h_X5_strike : CM l SH E yX5_strike cX5_strike 2 (some .boolean) d_X5_strike (env 76)) (hd_X5_strike : d_X5_strike + 1 ≤ d) {d_X4_price : Nat} (h_X4_price : CM l SH E yX4_price cX4_price 3 (some .boolean) d_X4_price (env 32)) (hd_X4_price : d_X4_price + 1 ≤ d) {d_X5_price : Nat} (h_X5_price : CM l SH E yX5_price cX5_price 3 (some .boolean) d_X5_price (env 77)) (hd_X5_price : d_X5_price + 1 ≤ d) {d_X4_swap : Nat} (h_X4_swap : CM l SH E yX4_swap cX4_swap 3 (some .boolean) d_X4_swap (env 33)) (hd_X4_swap : d_X4_swap + 1 ≤ d) {d_X5_swap : Nat} (h_X5_swap : CM l SH E yX5_swap cX5_swap 5 (some .boolean) d_X5_swap (env 78)) (hd_X5_swap : d_X5_swap + 1 ≤ d) {d_X4_at : Nat} (h_X4_at : CM l SH E yX4_at cX4_at 3 (some .int) d_X4_at (env 34)) (hd_X4_at : d_X4_at + 1 ≤ d) {d_X5_at : Nat} (h_X5_at : CM l SH E yX5_at cX5_at 3 (some .int) d_X5_at (env 79)) (hd_X5_at : d_X5_at + 1 ≤ d) {d_X4_row : Nat} (h_X4_row : CM l SH E yX4_row cX4_row 3 (some .int) d_X4_row (env 35)) (hd_X4_row : d_X4_row + 1 ≤ d) {d_X5_row : Nat} (h_X5_row : CM l SH E yX5_row cX5_row 3 (some .int) d_X5_row (env 80)) (hd_X5_row : d_X5_row + 1 ≤ d) {d_X4_between : Nat} (h_X4_between : CM l SH E yX4_between cX4_between 3 (some .int) d_X4_between (env 36)) (hd_X4_between : d_X4_between + 1 ≤ d) {d_X5_between : Nat} (h_X5_between : CM l SH E yX5_between cX5_between 3 (some .int) d_X5_between (env 85)) (hd_X5_between : d_X5_between + 1 ≤ d) {d_X4_pairs : Nat} (h_X4_pairs : CM l SH E yX4_pairs cX4_pairs 2 (some .int) d_X4_pairs (env 37)) (hd_X4_pairs : d_X4_pairs + 1 ≤ d) {d_X5_pairs : Nat} (h_X5_pairs : CM l SH E yX5_pairs cX5_pairs 3 (some .int) d_X5_pairs (env 88)) (hd_X5_pairs : d_X5_pairs + 1 ≤ d) {d_X4_kinds : Nat} (h_X4_kinds : CM l SH E yX4_kinds cX4_kinds 1 (some .int) d_X4_kinds (env 38)) (hd_X4_kinds : d_X4_kinds + 1 ≤ d) {d_X5_kinds : Nat} (h_X5_kinds : CM l SH E yX5_kinds cX5_kinds 3 (some .int) d_X5_kinds (env 89)) (hd_X5_kinds : d_X5_kinds + 1 ≤ d) {d_X4_broken : Nat} (h_X4_broken : CM l SH E yX4_broken cX4_broken 2 (some .int) d_X4_broken (env 39)) (hd_X4_broken : d_X4_broken + 1 ≤ d) {d_X5_broken : Nat} (h_X5_broken : CM l SH E yX5_broken cX5_broken 2 (some .int) d_X5_broken (env 97)) (hd_X5_broken : d_X5_broken + 1 ≤ d) {d_X4_breaker : Nat} (h_X4_breaker : CM l SH E yX4_breaker cX4_breaker 7 (some .int) d_X4_breaker (env 40)) (hd_X4_breaker : d_X4_breaker + 1 ≤ d) {d_X5_breaker : Nat} (h_X5_breaker : CM l SH E yX5_breaker cX5_breaker 7 (some .int) d_X5_breaker (env 98)) (hd_X5_breaker : d_X5_breaker + 1 ≤ d) {d_X4_laws : Nat} (h_X4_laws : CM l SH E yX4_laws cX4_laws 5 (some .int) d_X4_laws (env 41)) (hd_X4_laws : d_X4_laws + 1 ≤ d) {d_X5_laws : Nat} (h_X5_laws : CM l SH E yX5_laws cX5_laws 3 (some .int) d_X5_laws (env 104)) (hd_X5_laws : d_X5_laws + 1 ≤ d) {d_X4_law : Nat} (h_X4_law : CM l SH E yX4_law cX4_law 6 (some .int) d_X4_law (env 42)) (hd_X4_law : d_X4_law + 1 ≤ d) {d_X5_law : Nat} (h_X5_law : CM l SH E yX5_law cX5_law 4 (some .int) d_X5_law (env 105)) (hd_X5_law : d_X5_law + 1 ≤ d) {d_X4_sort : Nat} (h_X4_sort : CM l SH E yX4_sort cX4_sort 6 (some .int) d_X4_sort (env 43)) (hd_X4_sort : d_X4_sort + 1 ≤ d) {d_X5_sort : Nat} (h_X5_sort : CM l SH E yX5_sort cX5_sort 7 (some .int) d_X5_sort (env 106)) (hd_X5_sort : d_X5_sort + 1 ≤ d) {d_X4_least : Nat} (h_X4_least : CM l SH E yX4_least cX4_least 2 (some .int) d_X4_least (env 44)) (hd_X4_least : d_X4_least + 1 ≤ d) {d_X5_least : Nat} (h_X5_least : CM l SH E yX5_least cX5_least 2 (some .int) d_X5_least (env 93)) (hd_X5_least : d_X5_least + 1 ≤ d) {d_X4_said : Nat} (h_X4_said : CM l SH E yX4_said cX4_said 3 (some .int) d_X4_said (env 45)) (hd_X4_said : d_X4_said + 1 ≤ d) {d_X5_said : Nat} (h_X5_said : CM l SH E yX5_said cX5_said 3 (some .int) d_X5_said (env 101)) (hd_X5_said : d_X5_said + 1 ≤ d) {d_X4_settles : Nat} (h_X4_settles : CM l SH E yX4_settles cX4_settles 4 (some .int) d_X4_settles (env 46)) (hd_X4_settles : d_X4_settles + 1 ≤ d) {d_X5_settles : Nat} (h_X5_settles : CM l SH E yX5_settles cX5_settles 6 (some .int) d_X5_settles (env 109)) (hd_X5_settles : d_X5_settles + 1 ≤ d) {d_X4_keys : Nat} (h_X4_keys : CM l SH E yX4_keys cX4_keys 3 (some .int) d_X4_keys (env 47)) (hd_X4_keys : d_X4_keys + 1 ≤ d) {d_X5_keys : Nat} (h_X5_keys : CM l SH E yX5_keys cX5_keys 3 (some .int) d_X5_keys (env 112)) (hd_X5_keys : d_X5_keys + 1 ≤ d) {d_X4_key : Nat} (h_X4_key : CM l SH E yX4_key cX4_key 4 (some .int) d_X4_key (env 48)) (hd_X4_key : d_X4_key + 1 ≤ d) {d_X5_key : Nat} (h_X5_key : CM l SH E yX5_key cX5_key 4 (some .int) d_X5_key (env 113)) (hd_X5_key : d_X5_key + 1 ≤ d) {d_X4_tell : Nat} (h_X4_tell : CM l SH E yX4_tell cX4_tell 3 (some .boolean) d_X4_tell (env 49)) (hd_X4_tell : d_X4_tell + 1 ≤ d) {d_X5_tell : Nat} (h_X5_tell : CM l SH E yX5_tell cX5_tell 3 (some .boolean) d_X5_tell (env 114)) (hd_X5_tell : d_X5_tell + 1 ≤ d) {d_X4_told : Nat} (h_X4_told : CM l SH E yX4_told cX4_told 2 (some .int) d_X4_told (env 50)) (hd_X4_told : d_X4_told + 1 ≤ d) {d_X5_told : Nat} (h_X5_told : CM l SH E yX5_told cX5_told 2 (some .int) d_X5_told (env 115)) (hd_X5_told : d_X5_told + 1 ≤ d) {d_X4_mend : Nat} (h_X4_mend : CM l SH E yX4_mend cX4_mend 2 (some .int) d_X4_mend (env 51)) (hd_X4_mend : d_X4_mend + 1 ≤ d) {d_X5_mend : Nat} (h_X5_mend : CM l SH E yX5_mend cX5_mend 10 (some .int) d_X5_mend (env 117)) (hd_X5_mend : d_X5_mend + 1 ≤ d) {d_X4_undo : Nat} (h_X4_undo : CM l SH E yX4_undo cX4_undo 1 (some .boolean) d_X4_undo (env 52)) (hd_X4_undo : d_X4_undo + 1 ≤ d) {d_X5_undo : Nat} (h_X5_undo : CM l SH E yX5_undo cX5_undo 2 (some .boolean) d_X5_undo (env 71)) (hd_X5_undo : d_X5_undo + 1 ≤ d) : ∀ q ∈ T_L_law_4 E env, SS p l e R s m args below meth c cells slots Q D C A ad SH 4 cL_law (some .boolean) q.1 q.2 := by
  unfold T_L_law_4
  refine List.forall_mem_cons.mpr ⟨s_iconst (pc := 322) X (n := 0) (by decide +kernel) (by decide), ?_⟩
  refine List.forall_mem_cons.mpr ⟨s_retZ (pc := 323) (by decide +kernel), ?_⟩
  refine List.forall_mem_cons.mpr ⟨s_aload_n (pc := 324) X (i := 1) (by decide +kernel) rfl, ?_⟩
  refine List.forall_mem_cons.mpr ⟨s_aload_n (pc := 325) X (i := 0) (by decide +kernel) rfl, ?_⟩
  refine List.forall_mem_cons.mpr ⟨s_iload_n (pc := 326) X (i := 3) (by decide +kernel) rfl, ?_⟩
  refine List.forall_mem_cons.mpr ⟨s_iconst (pc := 327) X (n := 1) (by decide +kernel) (by decide), ?_⟩
  refine List.forall_mem_cons.mpr ⟨s_iadd (pc := 328) X (by decide +kernel), ?_⟩
  refine List.forall_mem_cons.mpr ⟨s_iald (pc := 329) X (by decide +kernel), ?_⟩
  refine List.forall_mem_cons.mpr ⟨s_aload_n (pc := 330) X (i := 0) (by decide +kernel) rfl, ?_⟩
  refine List.forall_mem_cons.mpr ⟨s_iload_n (pc := 331) X (i := 3) (by decide +kernel) rfl, ?_⟩
  refine List.forall_mem_cons.mpr ⟨s_iconst (pc := 332) X (n := 2) (by decide +kernel) (by decide), ?_⟩
  refine List.forall_mem_cons.mpr ⟨s_iadd (pc := 333) X (by decide +kernel), ?_⟩
  refine List.forall_mem_cons.mpr ⟨s_iald (pc := 334) X (by decide +kernel), ?_⟩
  refine List.forall_mem_cons.mpr ⟨s_callV (pc := 335) X (idx := 32) (by decide +kernel) h_X4_price rfl lk_RL_32 ls_X4_price lz_X4_price li_RX4 lc_X4_price hv_X4_price ⟨Nat.le_trans hd_X4_price hR.1, Nat.le_trans (by have := hd_X4_price; omega) hR.2⟩ hcs, ?_⟩
  refine List.forall_mem_cons.mpr ⟨s_aload_n (pc := 338) X (i := 2) (by decide +kernel) rfl, ?_⟩
  refine List.forall_mem_cons.mpr ⟨s_aload_n (pc := 339) X (i := 0) (by decide +kernel) rfl, ?_⟩
  refine List.forall_mem_cons.mpr ⟨s_iload_n (pc := 340) X (i := 3) (by decide +kernel) rfl, ?_⟩
  refine List.forall_mem_cons.mpr ⟨s_iconst (pc := 341) X (n := 1) (by decide +kernel) (by decide), ?_⟩
  refine List.forall_mem_cons.mpr ⟨s_iadd (pc := 342) X (by decide +kernel), ?_⟩
  refine List.forall_mem_cons.mpr ⟨s_iald (pc := 343) X (by decide +kernel), ?_⟩
  refine List.forall_mem_cons.mpr ⟨s_aload_n (pc := 344) X (i := 0) (by decide +kernel) rfl, ?_⟩
  refine List.forall_mem_cons.mpr ⟨s_iload_n (pc := 345) X (i := 3) (by decide +kernel) rfl, ?_⟩
  refine List.forall_mem_cons.mpr ⟨s_iconst (pc := 346) X (n := 2) (by decide +kernel) (by decide), ?_⟩
  refine List.forall_mem_cons.mpr ⟨s_iadd (pc := 347) X (by decide +kernel), ?_⟩
  refine List.forall_mem_cons.mpr ⟨s_iald (pc := 348) X (by decide +kernel), ?_⟩
  refine List.forall_mem_cons.mpr ⟨s_callV (pc := 349) X (idx := 36) (by decide +kernel) h_X5_price rfl lk_RL_36 ls_X5_price lz_X5_price li_RX5 lc_X5_price hv_X5_price ⟨Nat.le_trans hd_X5_price hR.1, Nat.le_trans (by have := hd_X5_price; omega) hR.2⟩ hcs, ?_⟩
  refine List.forall_mem_cons.mpr ⟨s_eq (pc := 352) X (off := 545) (by decide +kernel) (by decide), ?_⟩
  refine List.forall_mem_cons.mpr ⟨s_iconst (pc := 355) X (n := 0) (by decide +kernel) (by decide), ?_⟩
  refine List.forall_mem_cons.mpr ⟨s_retZ (pc := 356) (by decide +kernel), ?_⟩
  refine List.forall_mem_cons.mpr ⟨s_aload_n (pc := 357) X (i := 1) (by decide +kernel) rfl, ?_⟩
  refine List.forall_mem_cons.mpr ⟨s_aload_n (pc := 358) X (i := 0) (by decide +kernel) rfl, ?_⟩
  refine List.forall_mem_cons.mpr ⟨s_iload_n (pc := 359) X (i := 3) (by decide +kernel) rfl, ?_⟩
  refine List.forall_mem_cons.mpr ⟨s_iconst (pc := 360) X (n := 1) (by decide +kernel) (by decide), ?_⟩
  refine List.forall_mem_cons.mpr ⟨s_iadd (pc := 361) X (by decide +kernel), ?_⟩
  refine List.forall_mem_cons.mpr ⟨s_iald (pc := 362) X (by decide +kernel), ?_⟩
  refine List.forall_mem_cons.mpr ⟨s_aload_n (pc := 363) X (i := 0) (by decide +kernel) rfl, ?_⟩
  refine List.forall_mem_cons.mpr ⟨s_iload_n (pc := 364) X (i := 3) (by decide +kernel) rfl, ?_⟩
  refine List.forall_mem_cons.mpr ⟨s_iconst (pc := 365) X (n := 2) (by decide +kernel) (by decide), ?_⟩
  refine List.forall_mem_cons.mpr ⟨s_iadd (pc := 366) X (by decide +kernel), ?_⟩
  refine List.forall_mem_cons.mpr ⟨s_iald (pc := 367) X (by decide +kernel), ?_⟩
  exact fun _ h => absurd h List.not_mem_nil
def T_L_law_5 (E : Ex) (env : Nat → Mf) : List (Nat × Stq) := [(368, o_callV SH env 371 33 2 4),
  (371, o_al 372 2),
  (372, o_al 373 0),
  (373, o_il 374 3),
  (374, o_ic 375 (1)),
  (375, o_b2 376 (fun x y => x + y)),
  (376, o_ia SH E 377),
  (377, o_al 378 0),
  (378, o_il 379 3),
  (379, o_ic 380 (2)),
  (380, o_b2 381 (fun x y => x + y)),
  (381, o_ia SH E 382),
  (382, o_callV SH env 385 78 2 5),
  (385, o_eq 897 388),
  (388, o_ic 389 (0)),
  (389, o_retZ),
  (390, o_al 391 1),
  (391, o_al 392 0),
  (392, o_il 393 3),
  (393, o_ic 394 (1)),
  (394, o_b2 395 (fun x y => x + y)),
  (395, o_ia SH E 396),
  (396, o_al 397 0),
  (397, o_il 398 3),
  (398, o_ic 399 (2)),
  (399, o_b2 400 (fun x y => x + y)),
  (400, o_ia SH E 401),
  (401, o_callV SH env 404 34 2 4),
  (404, o_al 405 2),
  (405, o_al 406 0),
  (406, o_il 407 3),
  (407, o_ic 408 (1)),
  (408, o_b2 409 (fun x y => x + y)),
  (409, o_ia SH E 410),
  (410, o_al 411 0),
  (411, o_il 412 3),
  (412, o_ic 413 (2)),
  (413, o_b2 414 (fun x y => x + y)),
  (414, o_ia SH E 415),
  (415, o_callV SH env 418 79 2 5)]
set_option maxRecDepth 100000 in
set_option maxHeartbeats 4000000 in
theorem ts_L_law_5 {p : Program} {l : Launch} {e : Env} {R : Room} {s : State} {m : MethodId} {args : Array Value} {below : List Frame} {meth : Method} {c : Code} {cells slots : Nat} {Q : State → Prop} {D : va_G} {C : CI3} {A : Nat → Prop} {ad : Nat → Nat} {E : Ex} {env : Nat → Mf} {d : Nat} (X : Cx p R s m args c cL_law 4 RL D C A ad SH E) (hR : d ≤ R.frames ∧ 100 * d ≤ R.locals) (hcs : cells ≤ R.cells ∧ slots ≤ R.slots) {d_X4_table : Nat} (h_X4_table : CM l SH E yX4_table cX4_table 2 (some .boolean) d_X4_table (env 28)) (hd_X4_table : d_X4_table + 1 ≤ d) {d_X5_table : Nat} (h_X5_table : CM l SH E yX5_table cX5_table 3 (some .boolean) d_X5_table (env 72)) (hd_X5_table : d_X5_table + 1 ≤ d) {d_X4_put : Nat} (h_X4_put : CM l SH E yX4_put cX4_put 8 (some .boolean) d_X4_put (env 29)) (hd_X4_put : d_X4_put + 1 ≤ d) {d_X5_put : Nat} (h_X5_put : CM l SH E yX5_put cX5_put 11 (some .boolean) d_X5_put (env 74)) (hd_X5_put : d_X5_put + 1 ≤ d) {d_X4_change : Nat} (h_X4_change : CM l SH E yX4_change cX4_change 4 (some .boolean) d_X4_change (env 30)) (hd_X4_change : d_X4_change + 1 ≤ d) {d_X5_change : Nat} (h_X5_change : CM l SH E yX5_change cX5_change 4 (some .boolean) d_X5_change (env 75)) (hd_X5_change : d_X5_change + 1 ≤ d) {d_X4_strike : Nat} (h_X4_strike : CM l SH E yX4_strike cX4_strike 2 (some .boolean) d_X4_strike (env 31)) (hd_X4_strike : d_X4_strike + 1 ≤ d) {d_X5_strike : Nat} (h_X5_strike : CM l SH E yX5_strike cX5_strike 2 (some .boolean) d_X5_strike (env 76)) (hd_X5_strike : d_X5_strike + 1 ≤ d) {d_X4_price : Nat} (h_X4_price : CM l SH E yX4_price cX4_price 3 (some .boolean) d_X4_price (env 32)) (hd_X4_price : d_X4_price + 1 ≤ d) {d_X5_price : Nat} (h_X5_price : CM l SH E yX5_price cX5_price 3 (some .boolean) d_X5_price (env 77)) (hd_X5_price : d_X5_price + 1 ≤ d) {d_X4_swap : Nat} (h_X4_swap : CM l SH E yX4_swap cX4_swap 3 (some .boolean) d_X4_swap (env 33)) (hd_X4_swap : d_X4_swap + 1 ≤ d) {d_X5_swap : Nat} (h_X5_swap : CM l SH E yX5_swap cX5_swap 5 (some .boolean) d_X5_swap (env 78)) (hd_X5_swap : d_X5_swap + 1 ≤ d) {d_X4_at : Nat} (h_X4_at : CM l SH E yX4_at cX4_at 3 (some .int) d_X4_at (env 34)) (hd_X4_at : d_X4_at + 1 ≤ d) {d_X5_at : Nat} (h_X5_at : CM l SH E yX5_at cX5_at 3 (some .int) d_X5_at (env 79)) (hd_X5_at : d_X5_at + 1 ≤ d) {d_X4_row : Nat} (h_X4_row : CM l SH E yX4_row cX4_row 3 (some .int) d_X4_row (env 35)) (hd_X4_row : d_X4_row + 1 ≤ d) {d_X5_row : Nat} (h_X5_row : CM l SH E yX5_row cX5_row 3 (some .int) d_X5_row (env 80)) (hd_X5_row : d_X5_row + 1 ≤ d) {d_X4_between : Nat} (h_X4_between : CM l SH E yX4_between cX4_between 3 (some .int) d_X4_between (env 36)) (hd_X4_between : d_X4_between + 1 ≤ d) {d_X5_between : Nat} (h_X5_between : CM l SH E yX5_between cX5_between 3 (some .int) d_X5_between (env 85)) (hd_X5_between : d_X5_between + 1 ≤ d) {d_X4_pairs : Nat} (h_X4_pairs : CM l SH E yX4_pairs cX4_pairs 2 (some .int) d_X4_pairs (env 37)) (hd_X4_pairs : d_X4_pairs + 1 ≤ d) {d_X5_pairs : Nat} (h_X5_pairs : CM l SH E yX5_pairs cX5_pairs 3 (some .int) d_X5_pairs (env 88)) (hd_X5_pairs : d_X5_pairs + 1 ≤ d) {d_X4_kinds : Nat} (h_X4_kinds : CM l SH E yX4_kinds cX4_kinds 1 (some .int) d_X4_kinds (env 38)) (hd_X4_kinds : d_X4_kinds + 1 ≤ d) {d_X5_kinds : Nat} (h_X5_kinds : CM l SH E yX5_kinds cX5_kinds 3 (some .int) d_X5_kinds (env 89)) (hd_X5_kinds : d_X5_kinds + 1 ≤ d) {d_X4_broken : Nat} (h_X4_broken : CM l SH E yX4_broken cX4_broken 2 (some .int) d_X4_broken (env 39)) (hd_X4_broken : d_X4_broken + 1 ≤ d) {d_X5_broken : Nat} (h_X5_broken : CM l SH E yX5_broken cX5_broken 2 (some .int) d_X5_broken (env 97)) (hd_X5_broken : d_X5_broken + 1 ≤ d) {d_X4_breaker : Nat} (h_X4_breaker : CM l SH E yX4_breaker cX4_breaker 7 (some .int) d_X4_breaker (env 40)) (hd_X4_breaker : d_X4_breaker + 1 ≤ d) {d_X5_breaker : Nat} (h_X5_breaker : CM l SH E yX5_breaker cX5_breaker 7 (some .int) d_X5_breaker (env 98)) (hd_X5_breaker : d_X5_breaker + 1 ≤ d) {d_X4_laws : Nat} (h_X4_laws : CM l SH E yX4_laws cX4_laws 5 (some .int) d_X4_laws (env 41)) (hd_X4_laws : d_X4_laws + 1 ≤ d) {d_X5_laws : Nat} (h_X5_laws : CM l SH E yX5_laws cX5_laws 3 (some .int) d_X5_laws (env 104)) (hd_X5_laws : d_X5_laws + 1 ≤ d) {d_X4_law : Nat} (h_X4_law : CM l SH E yX4_law cX4_law 6 (some .int) d_X4_law (env 42)) (hd_X4_law : d_X4_law + 1 ≤ d) {d_X5_law : Nat} (h_X5_law : CM l SH E yX5_law cX5_law 4 (some .int) d_X5_law (env 105)) (hd_X5_law : d_X5_law + 1 ≤ d) {d_X4_sort : Nat} (h_X4_sort : CM l SH E yX4_sort cX4_sort 6 (some .int) d_X4_sort (env 43)) (hd_X4_sort : d_X4_sort + 1 ≤ d) {d_X5_sort : Nat} (h_X5_sort : CM l SH E yX5_sort cX5_sort 7 (some .int) d_X5_sort (env 106)) (hd_X5_sort : d_X5_sort + 1 ≤ d) {d_X4_least : Nat} (h_X4_least : CM l SH E yX4_least cX4_least 2 (some .int) d_X4_least (env 44)) (hd_X4_least : d_X4_least + 1 ≤ d) {d_X5_least : Nat} (h_X5_least : CM l SH E yX5_least cX5_least 2 (some .int) d_X5_least (env 93)) (hd_X5_least : d_X5_least + 1 ≤ d) {d_X4_said : Nat} (h_X4_said : CM l SH E yX4_said cX4_said 3 (some .int) d_X4_said (env 45)) (hd_X4_said : d_X4_said + 1 ≤ d) {d_X5_said : Nat} (h_X5_said : CM l SH E yX5_said cX5_said 3 (some .int) d_X5_said (env 101)) (hd_X5_said : d_X5_said + 1 ≤ d) {d_X4_settles : Nat} (h_X4_settles : CM l SH E yX4_settles cX4_settles 4 (some .int) d_X4_settles (env 46)) (hd_X4_settles : d_X4_settles + 1 ≤ d) {d_X5_settles : Nat} (h_X5_settles : CM l SH E yX5_settles cX5_settles 6 (some .int) d_X5_settles (env 109)) (hd_X5_settles : d_X5_settles + 1 ≤ d) {d_X4_keys : Nat} (h_X4_keys : CM l SH E yX4_keys cX4_keys 3 (some .int) d_X4_keys (env 47)) (hd_X4_keys : d_X4_keys + 1 ≤ d) {d_X5_keys : Nat} (h_X5_keys : CM l SH E yX5_keys cX5_keys 3 (some .int) d_X5_keys (env 112)) (hd_X5_keys : d_X5_keys + 1 ≤ d) {d_X4_key : Nat} (h_X4_key : CM l SH E yX4_key cX4_key 4 (some .int) d_X4_key (env 48)) (hd_X4_key : d_X4_key + 1 ≤ d) {d_X5_key : Nat} (h_X5_key : CM l SH E yX5_key cX5_key 4 (some .int) d_X5_key (env 113)) (hd_X5_key : d_X5_key + 1 ≤ d) {d_X4_tell : Nat} (h_X4_tell : CM l SH E yX4_tell cX4_tell 3 (some .boolean) d_X4_tell (env 49)) (hd_X4_tell : d_X4_tell + 1 ≤ d) {d_X5_tell : Nat} (h_X5_tell : CM l SH E yX5_tell cX5_tell 3 (some .boolean) d_X5_tell (env 114)) (hd_X5_tell : d_X5_tell + 1 ≤ d) {d_X4_told : Nat} (h_X4_told : CM l SH E yX4_told cX4_told 2 (some .int) d_X4_told (env 50)) (hd_X4_told : d_X4_told + 1 ≤ d) {d_X5_told : Nat} (h_X5_told : CM l SH E yX5_told cX5_told 2 (some .int) d_X5_told (env 115)) (hd_X5_told : d_X5_told + 1 ≤ d) {d_X4_mend : Nat} (h_X4_mend : CM l SH E yX4_mend cX4_mend 2 (some .int) d_X4_mend (env 51)) (hd_X4_mend : d_X4_mend + 1 ≤ d) {d_X5_mend : Nat} (h_X5_mend : CM l SH E yX5_mend cX5_mend 10 (some .int) d_X5_mend (env 117)) (hd_X5_mend : d_X5_mend + 1 ≤ d) {d_X4_undo : Nat} (h_X4_undo : CM l SH E yX4_undo cX4_undo 1 (some .boolean) d_X4_undo (env 52)) (hd_X4_undo : d_X4_undo + 1 ≤ d) {d_X5_undo : Nat} (h_X5_undo : CM l SH E yX5_undo cX5_undo 2 (some .boolean) d_X5_undo (env 71)) (hd_X5_undo : d_X5_undo + 1 ≤ d) : ∀ q ∈ T_L_law_5 E env, SS p l e R s m args below meth c cells slots Q D C A ad SH 4 cL_law (some .boolean) q.1 q.2 := by
  unfold T_L_law_5
  refine List.forall_mem_cons.mpr ⟨s_callV (pc := 368) X (idx := 37) (by decide +kernel) h_X4_swap rfl lk_RL_37 ls_X4_swap lz_X4_swap li_RX4 lc_X4_swap hv_X4_swap ⟨Nat.le_trans hd_X4_swap hR.1, Nat.le_trans (by have := hd_X4_swap; omega) hR.2⟩ hcs, ?_⟩
  refine List.forall_mem_cons.mpr ⟨s_aload_n (pc := 371) X (i := 2) (by decide +kernel) rfl, ?_⟩
  refine List.forall_mem_cons.mpr ⟨s_aload_n (pc := 372) X (i := 0) (by decide +kernel) rfl, ?_⟩
  refine List.forall_mem_cons.mpr ⟨s_iload_n (pc := 373) X (i := 3) (by decide +kernel) rfl, ?_⟩
  refine List.forall_mem_cons.mpr ⟨s_iconst (pc := 374) X (n := 1) (by decide +kernel) (by decide), ?_⟩
  refine List.forall_mem_cons.mpr ⟨s_iadd (pc := 375) X (by decide +kernel), ?_⟩
  refine List.forall_mem_cons.mpr ⟨s_iald (pc := 376) X (by decide +kernel), ?_⟩
  refine List.forall_mem_cons.mpr ⟨s_aload_n (pc := 377) X (i := 0) (by decide +kernel) rfl, ?_⟩
  refine List.forall_mem_cons.mpr ⟨s_iload_n (pc := 378) X (i := 3) (by decide +kernel) rfl, ?_⟩
  refine List.forall_mem_cons.mpr ⟨s_iconst (pc := 379) X (n := 2) (by decide +kernel) (by decide), ?_⟩
  refine List.forall_mem_cons.mpr ⟨s_iadd (pc := 380) X (by decide +kernel), ?_⟩
  refine List.forall_mem_cons.mpr ⟨s_iald (pc := 381) X (by decide +kernel), ?_⟩
  refine List.forall_mem_cons.mpr ⟨s_callV (pc := 382) X (idx := 40) (by decide +kernel) h_X5_swap rfl lk_RL_40 ls_X5_swap lz_X5_swap li_RX5 lc_X5_swap hv_X5_swap ⟨Nat.le_trans hd_X5_swap hR.1, Nat.le_trans (by have := hd_X5_swap; omega) hR.2⟩ hcs, ?_⟩
  refine List.forall_mem_cons.mpr ⟨s_eq (pc := 385) X (off := 512) (by decide +kernel) (by decide), ?_⟩
  refine List.forall_mem_cons.mpr ⟨s_iconst (pc := 388) X (n := 0) (by decide +kernel) (by decide), ?_⟩
  refine List.forall_mem_cons.mpr ⟨s_retZ (pc := 389) (by decide +kernel), ?_⟩
  refine List.forall_mem_cons.mpr ⟨s_aload_n (pc := 390) X (i := 1) (by decide +kernel) rfl, ?_⟩
  refine List.forall_mem_cons.mpr ⟨s_aload_n (pc := 391) X (i := 0) (by decide +kernel) rfl, ?_⟩
  refine List.forall_mem_cons.mpr ⟨s_iload_n (pc := 392) X (i := 3) (by decide +kernel) rfl, ?_⟩
  refine List.forall_mem_cons.mpr ⟨s_iconst (pc := 393) X (n := 1) (by decide +kernel) (by decide), ?_⟩
  refine List.forall_mem_cons.mpr ⟨s_iadd (pc := 394) X (by decide +kernel), ?_⟩
  refine List.forall_mem_cons.mpr ⟨s_iald (pc := 395) X (by decide +kernel), ?_⟩
  refine List.forall_mem_cons.mpr ⟨s_aload_n (pc := 396) X (i := 0) (by decide +kernel) rfl, ?_⟩
  refine List.forall_mem_cons.mpr ⟨s_iload_n (pc := 397) X (i := 3) (by decide +kernel) rfl, ?_⟩
  refine List.forall_mem_cons.mpr ⟨s_iconst (pc := 398) X (n := 2) (by decide +kernel) (by decide), ?_⟩
  refine List.forall_mem_cons.mpr ⟨s_iadd (pc := 399) X (by decide +kernel), ?_⟩
  refine List.forall_mem_cons.mpr ⟨s_iald (pc := 400) X (by decide +kernel), ?_⟩
  refine List.forall_mem_cons.mpr ⟨s_callV (pc := 401) X (idx := 41) (by decide +kernel) h_X4_at rfl lk_RL_41 ls_X4_at lz_X4_at li_RX4 lc_X4_at hv_X4_at ⟨Nat.le_trans hd_X4_at hR.1, Nat.le_trans (by have := hd_X4_at; omega) hR.2⟩ hcs, ?_⟩
  refine List.forall_mem_cons.mpr ⟨s_aload_n (pc := 404) X (i := 2) (by decide +kernel) rfl, ?_⟩
  refine List.forall_mem_cons.mpr ⟨s_aload_n (pc := 405) X (i := 0) (by decide +kernel) rfl, ?_⟩
  refine List.forall_mem_cons.mpr ⟨s_iload_n (pc := 406) X (i := 3) (by decide +kernel) rfl, ?_⟩
  refine List.forall_mem_cons.mpr ⟨s_iconst (pc := 407) X (n := 1) (by decide +kernel) (by decide), ?_⟩
  refine List.forall_mem_cons.mpr ⟨s_iadd (pc := 408) X (by decide +kernel), ?_⟩
  refine List.forall_mem_cons.mpr ⟨s_iald (pc := 409) X (by decide +kernel), ?_⟩
  refine List.forall_mem_cons.mpr ⟨s_aload_n (pc := 410) X (i := 0) (by decide +kernel) rfl, ?_⟩
  refine List.forall_mem_cons.mpr ⟨s_iload_n (pc := 411) X (i := 3) (by decide +kernel) rfl, ?_⟩
  refine List.forall_mem_cons.mpr ⟨s_iconst (pc := 412) X (n := 2) (by decide +kernel) (by decide), ?_⟩
  refine List.forall_mem_cons.mpr ⟨s_iadd (pc := 413) X (by decide +kernel), ?_⟩
  refine List.forall_mem_cons.mpr ⟨s_iald (pc := 414) X (by decide +kernel), ?_⟩
  refine List.forall_mem_cons.mpr ⟨s_callV (pc := 415) X (idx := 45) (by decide +kernel) h_X5_at rfl lk_RL_45 ls_X5_at lz_X5_at li_RX5 lc_X5_at hv_X5_at ⟨Nat.le_trans hd_X5_at hR.1, Nat.le_trans (by have := hd_X5_at; omega) hR.2⟩ hcs, ?_⟩
  exact fun _ h => absurd h List.not_mem_nil
def T_L_law_6 (E : Ex) (env : Nat → Mf) : List (Nat × Stq) := [(418, o_eq 897 421),
  (421, o_ic 422 (0)),
  (422, o_retZ),
  (423, o_al 424 1),
  (424, o_al 425 0),
  (425, o_il 426 3),
  (426, o_ic 427 (1)),
  (427, o_b2 428 (fun x y => x + y)),
  (428, o_ia SH E 429),
  (429, o_al 430 0),
  (430, o_il 431 3),
  (431, o_ic 432 (2)),
  (432, o_b2 433 (fun x y => x + y)),
  (433, o_ia SH E 434),
  (434, o_callV SH env 437 35 2 4),
  (437, o_al 438 2),
  (438, o_al 439 0),
  (439, o_il 440 3),
  (440, o_ic 441 (1)),
  (441, o_b2 442 (fun x y => x + y)),
  (442, o_ia SH E 443),
  (443, o_al 444 0),
  (444, o_il 445 3),
  (445, o_ic 446 (2)),
  (446, o_b2 447 (fun x y => x + y)),
  (447, o_ia SH E 448),
  (448, o_callV SH env 451 80 2 5),
  (451, o_eq 897 454),
  (454, o_ic 455 (0)),
  (455, o_retZ),
  (456, o_al 457 1),
  (457, o_al 458 0),
  (458, o_il 459 3),
  (459, o_ic 460 (1)),
  (460, o_b2 461 (fun x y => x + y)),
  (461, o_ia SH E 462),
  (462, o_al 463 0),
  (463, o_il 464 3),
  (464, o_ic 465 (2)),
  (465, o_b2 466 (fun x y => x + y))]
set_option maxRecDepth 100000 in
set_option maxHeartbeats 4000000 in
theorem ts_L_law_6 {p : Program} {l : Launch} {e : Env} {R : Room} {s : State} {m : MethodId} {args : Array Value} {below : List Frame} {meth : Method} {c : Code} {cells slots : Nat} {Q : State → Prop} {D : va_G} {C : CI3} {A : Nat → Prop} {ad : Nat → Nat} {E : Ex} {env : Nat → Mf} {d : Nat} (X : Cx p R s m args c cL_law 4 RL D C A ad SH E) (hR : d ≤ R.frames ∧ 100 * d ≤ R.locals) (hcs : cells ≤ R.cells ∧ slots ≤ R.slots) {d_X4_table : Nat} (h_X4_table : CM l SH E yX4_table cX4_table 2 (some .boolean) d_X4_table (env 28)) (hd_X4_table : d_X4_table + 1 ≤ d) {d_X5_table : Nat} (h_X5_table : CM l SH E yX5_table cX5_table 3 (some .boolean) d_X5_table (env 72)) (hd_X5_table : d_X5_table + 1 ≤ d) {d_X4_put : Nat} (h_X4_put : CM l SH E yX4_put cX4_put 8 (some .boolean) d_X4_put (env 29)) (hd_X4_put : d_X4_put + 1 ≤ d) {d_X5_put : Nat} (h_X5_put : CM l SH E yX5_put cX5_put 11 (some .boolean) d_X5_put (env 74)) (hd_X5_put : d_X5_put + 1 ≤ d) {d_X4_change : Nat} (h_X4_change : CM l SH E yX4_change cX4_change 4 (some .boolean) d_X4_change (env 30)) (hd_X4_change : d_X4_change + 1 ≤ d) {d_X5_change : Nat} (h_X5_change : CM l SH E yX5_change cX5_change 4 (some .boolean) d_X5_change (env 75)) (hd_X5_change : d_X5_change + 1 ≤ d) {d_X4_strike : Nat} (h_X4_strike : CM l SH E yX4_strike cX4_strike 2 (some .boolean) d_X4_strike (env 31)) (hd_X4_strike : d_X4_strike + 1 ≤ d) {d_X5_strike : Nat} (h_X5_strike : CM l SH E yX5_strike cX5_strike 2 (some .boolean) d_X5_strike (env 76)) (hd_X5_strike : d_X5_strike + 1 ≤ d) {d_X4_price : Nat} (h_X4_price : CM l SH E yX4_price cX4_price 3 (some .boolean) d_X4_price (env 32)) (hd_X4_price : d_X4_price + 1 ≤ d) {d_X5_price : Nat} (h_X5_price : CM l SH E yX5_price cX5_price 3 (some .boolean) d_X5_price (env 77)) (hd_X5_price : d_X5_price + 1 ≤ d) {d_X4_swap : Nat} (h_X4_swap : CM l SH E yX4_swap cX4_swap 3 (some .boolean) d_X4_swap (env 33)) (hd_X4_swap : d_X4_swap + 1 ≤ d) {d_X5_swap : Nat} (h_X5_swap : CM l SH E yX5_swap cX5_swap 5 (some .boolean) d_X5_swap (env 78)) (hd_X5_swap : d_X5_swap + 1 ≤ d) {d_X4_at : Nat} (h_X4_at : CM l SH E yX4_at cX4_at 3 (some .int) d_X4_at (env 34)) (hd_X4_at : d_X4_at + 1 ≤ d) {d_X5_at : Nat} (h_X5_at : CM l SH E yX5_at cX5_at 3 (some .int) d_X5_at (env 79)) (hd_X5_at : d_X5_at + 1 ≤ d) {d_X4_row : Nat} (h_X4_row : CM l SH E yX4_row cX4_row 3 (some .int) d_X4_row (env 35)) (hd_X4_row : d_X4_row + 1 ≤ d) {d_X5_row : Nat} (h_X5_row : CM l SH E yX5_row cX5_row 3 (some .int) d_X5_row (env 80)) (hd_X5_row : d_X5_row + 1 ≤ d) {d_X4_between : Nat} (h_X4_between : CM l SH E yX4_between cX4_between 3 (some .int) d_X4_between (env 36)) (hd_X4_between : d_X4_between + 1 ≤ d) {d_X5_between : Nat} (h_X5_between : CM l SH E yX5_between cX5_between 3 (some .int) d_X5_between (env 85)) (hd_X5_between : d_X5_between + 1 ≤ d) {d_X4_pairs : Nat} (h_X4_pairs : CM l SH E yX4_pairs cX4_pairs 2 (some .int) d_X4_pairs (env 37)) (hd_X4_pairs : d_X4_pairs + 1 ≤ d) {d_X5_pairs : Nat} (h_X5_pairs : CM l SH E yX5_pairs cX5_pairs 3 (some .int) d_X5_pairs (env 88)) (hd_X5_pairs : d_X5_pairs + 1 ≤ d) {d_X4_kinds : Nat} (h_X4_kinds : CM l SH E yX4_kinds cX4_kinds 1 (some .int) d_X4_kinds (env 38)) (hd_X4_kinds : d_X4_kinds + 1 ≤ d) {d_X5_kinds : Nat} (h_X5_kinds : CM l SH E yX5_kinds cX5_kinds 3 (some .int) d_X5_kinds (env 89)) (hd_X5_kinds : d_X5_kinds + 1 ≤ d) {d_X4_broken : Nat} (h_X4_broken : CM l SH E yX4_broken cX4_broken 2 (some .int) d_X4_broken (env 39)) (hd_X4_broken : d_X4_broken + 1 ≤ d) {d_X5_broken : Nat} (h_X5_broken : CM l SH E yX5_broken cX5_broken 2 (some .int) d_X5_broken (env 97)) (hd_X5_broken : d_X5_broken + 1 ≤ d) {d_X4_breaker : Nat} (h_X4_breaker : CM l SH E yX4_breaker cX4_breaker 7 (some .int) d_X4_breaker (env 40)) (hd_X4_breaker : d_X4_breaker + 1 ≤ d) {d_X5_breaker : Nat} (h_X5_breaker : CM l SH E yX5_breaker cX5_breaker 7 (some .int) d_X5_breaker (env 98)) (hd_X5_breaker : d_X5_breaker + 1 ≤ d) {d_X4_laws : Nat} (h_X4_laws : CM l SH E yX4_laws cX4_laws 5 (some .int) d_X4_laws (env 41)) (hd_X4_laws : d_X4_laws + 1 ≤ d) {d_X5_laws : Nat} (h_X5_laws : CM l SH E yX5_laws cX5_laws 3 (some .int) d_X5_laws (env 104)) (hd_X5_laws : d_X5_laws + 1 ≤ d) {d_X4_law : Nat} (h_X4_law : CM l SH E yX4_law cX4_law 6 (some .int) d_X4_law (env 42)) (hd_X4_law : d_X4_law + 1 ≤ d) {d_X5_law : Nat} (h_X5_law : CM l SH E yX5_law cX5_law 4 (some .int) d_X5_law (env 105)) (hd_X5_law : d_X5_law + 1 ≤ d) {d_X4_sort : Nat} (h_X4_sort : CM l SH E yX4_sort cX4_sort 6 (some .int) d_X4_sort (env 43)) (hd_X4_sort : d_X4_sort + 1 ≤ d) {d_X5_sort : Nat} (h_X5_sort : CM l SH E yX5_sort cX5_sort 7 (some .int) d_X5_sort (env 106)) (hd_X5_sort : d_X5_sort + 1 ≤ d) {d_X4_least : Nat} (h_X4_least : CM l SH E yX4_least cX4_least 2 (some .int) d_X4_least (env 44)) (hd_X4_least : d_X4_least + 1 ≤ d) {d_X5_least : Nat} (h_X5_least : CM l SH E yX5_least cX5_least 2 (some .int) d_X5_least (env 93)) (hd_X5_least : d_X5_least + 1 ≤ d) {d_X4_said : Nat} (h_X4_said : CM l SH E yX4_said cX4_said 3 (some .int) d_X4_said (env 45)) (hd_X4_said : d_X4_said + 1 ≤ d) {d_X5_said : Nat} (h_X5_said : CM l SH E yX5_said cX5_said 3 (some .int) d_X5_said (env 101)) (hd_X5_said : d_X5_said + 1 ≤ d) {d_X4_settles : Nat} (h_X4_settles : CM l SH E yX4_settles cX4_settles 4 (some .int) d_X4_settles (env 46)) (hd_X4_settles : d_X4_settles + 1 ≤ d) {d_X5_settles : Nat} (h_X5_settles : CM l SH E yX5_settles cX5_settles 6 (some .int) d_X5_settles (env 109)) (hd_X5_settles : d_X5_settles + 1 ≤ d) {d_X4_keys : Nat} (h_X4_keys : CM l SH E yX4_keys cX4_keys 3 (some .int) d_X4_keys (env 47)) (hd_X4_keys : d_X4_keys + 1 ≤ d) {d_X5_keys : Nat} (h_X5_keys : CM l SH E yX5_keys cX5_keys 3 (some .int) d_X5_keys (env 112)) (hd_X5_keys : d_X5_keys + 1 ≤ d) {d_X4_key : Nat} (h_X4_key : CM l SH E yX4_key cX4_key 4 (some .int) d_X4_key (env 48)) (hd_X4_key : d_X4_key + 1 ≤ d) {d_X5_key : Nat} (h_X5_key : CM l SH E yX5_key cX5_key 4 (some .int) d_X5_key (env 113)) (hd_X5_key : d_X5_key + 1 ≤ d) {d_X4_tell : Nat} (h_X4_tell : CM l SH E yX4_tell cX4_tell 3 (some .boolean) d_X4_tell (env 49)) (hd_X4_tell : d_X4_tell + 1 ≤ d) {d_X5_tell : Nat} (h_X5_tell : CM l SH E yX5_tell cX5_tell 3 (some .boolean) d_X5_tell (env 114)) (hd_X5_tell : d_X5_tell + 1 ≤ d) {d_X4_told : Nat} (h_X4_told : CM l SH E yX4_told cX4_told 2 (some .int) d_X4_told (env 50)) (hd_X4_told : d_X4_told + 1 ≤ d) {d_X5_told : Nat} (h_X5_told : CM l SH E yX5_told cX5_told 2 (some .int) d_X5_told (env 115)) (hd_X5_told : d_X5_told + 1 ≤ d) {d_X4_mend : Nat} (h_X4_mend : CM l SH E yX4_mend cX4_mend 2 (some .int) d_X4_mend (env 51)) (hd_X4_mend : d_X4_mend + 1 ≤ d) {d_X5_mend : Nat} (h_X5_mend : CM l SH E yX5_mend cX5_mend 10 (some .int) d_X5_mend (env 117)) (hd_X5_mend : d_X5_mend + 1 ≤ d) {d_X4_undo : Nat} (h_X4_undo : CM l SH E yX4_undo cX4_undo 1 (some .boolean) d_X4_undo (env 52)) (hd_X4_undo : d_X4_undo + 1 ≤ d) {d_X5_undo : Nat} (h_X5_undo : CM l SH E yX5_undo cX5_undo 2 (some .boolean) d_X5_undo (env 71)) (hd_X5_undo : d_X5_undo + 1 ≤ d) : ∀ q ∈ T_L_law_6 E env, SS p l e R s m args below meth c cells slots Q D C A ad SH 4 cL_law (some .boolean) q.1 q.2 := by
  unfold T_L_law_6
  refine List.forall_mem_cons.mpr ⟨s_eq (pc := 418) X (off := 479) (by decide +kernel) (by decide), ?_⟩
  refine List.forall_mem_cons.mpr ⟨s_iconst (pc := 421) X (n := 0) (by decide +kernel) (by decide), ?_⟩
  refine List.forall_mem_cons.mpr ⟨s_retZ (pc := 422) (by decide +kernel), ?_⟩
  refine List.forall_mem_cons.mpr ⟨s_aload_n (pc := 423) X (i := 1) (by decide +kernel) rfl, ?_⟩
  refine List.forall_mem_cons.mpr ⟨s_aload_n (pc := 424) X (i := 0) (by decide +kernel) rfl, ?_⟩
  refine List.forall_mem_cons.mpr ⟨s_iload_n (pc := 425) X (i := 3) (by decide +kernel) rfl, ?_⟩
  refine List.forall_mem_cons.mpr ⟨s_iconst (pc := 426) X (n := 1) (by decide +kernel) (by decide), ?_⟩
  refine List.forall_mem_cons.mpr ⟨s_iadd (pc := 427) X (by decide +kernel), ?_⟩
  refine List.forall_mem_cons.mpr ⟨s_iald (pc := 428) X (by decide +kernel), ?_⟩
  refine List.forall_mem_cons.mpr ⟨s_aload_n (pc := 429) X (i := 0) (by decide +kernel) rfl, ?_⟩
  refine List.forall_mem_cons.mpr ⟨s_iload_n (pc := 430) X (i := 3) (by decide +kernel) rfl, ?_⟩
  refine List.forall_mem_cons.mpr ⟨s_iconst (pc := 431) X (n := 2) (by decide +kernel) (by decide), ?_⟩
  refine List.forall_mem_cons.mpr ⟨s_iadd (pc := 432) X (by decide +kernel), ?_⟩
  refine List.forall_mem_cons.mpr ⟨s_iald (pc := 433) X (by decide +kernel), ?_⟩
  refine List.forall_mem_cons.mpr ⟨s_callV (pc := 434) X (idx := 46) (by decide +kernel) h_X4_row rfl lk_RL_46 ls_X4_row lz_X4_row li_RX4 lc_X4_row hv_X4_row ⟨Nat.le_trans hd_X4_row hR.1, Nat.le_trans (by have := hd_X4_row; omega) hR.2⟩ hcs, ?_⟩
  refine List.forall_mem_cons.mpr ⟨s_aload_n (pc := 437) X (i := 2) (by decide +kernel) rfl, ?_⟩
  refine List.forall_mem_cons.mpr ⟨s_aload_n (pc := 438) X (i := 0) (by decide +kernel) rfl, ?_⟩
  refine List.forall_mem_cons.mpr ⟨s_iload_n (pc := 439) X (i := 3) (by decide +kernel) rfl, ?_⟩
  refine List.forall_mem_cons.mpr ⟨s_iconst (pc := 440) X (n := 1) (by decide +kernel) (by decide), ?_⟩
  refine List.forall_mem_cons.mpr ⟨s_iadd (pc := 441) X (by decide +kernel), ?_⟩
  refine List.forall_mem_cons.mpr ⟨s_iald (pc := 442) X (by decide +kernel), ?_⟩
  refine List.forall_mem_cons.mpr ⟨s_aload_n (pc := 443) X (i := 0) (by decide +kernel) rfl, ?_⟩
  refine List.forall_mem_cons.mpr ⟨s_iload_n (pc := 444) X (i := 3) (by decide +kernel) rfl, ?_⟩
  refine List.forall_mem_cons.mpr ⟨s_iconst (pc := 445) X (n := 2) (by decide +kernel) (by decide), ?_⟩
  refine List.forall_mem_cons.mpr ⟨s_iadd (pc := 446) X (by decide +kernel), ?_⟩
  refine List.forall_mem_cons.mpr ⟨s_iald (pc := 447) X (by decide +kernel), ?_⟩
  refine List.forall_mem_cons.mpr ⟨s_callV (pc := 448) X (idx := 49) (by decide +kernel) h_X5_row rfl lk_RL_49 ls_X5_row lz_X5_row li_RX5 lc_X5_row hv_X5_row ⟨Nat.le_trans hd_X5_row hR.1, Nat.le_trans (by have := hd_X5_row; omega) hR.2⟩ hcs, ?_⟩
  refine List.forall_mem_cons.mpr ⟨s_eq (pc := 451) X (off := 446) (by decide +kernel) (by decide), ?_⟩
  refine List.forall_mem_cons.mpr ⟨s_iconst (pc := 454) X (n := 0) (by decide +kernel) (by decide), ?_⟩
  refine List.forall_mem_cons.mpr ⟨s_retZ (pc := 455) (by decide +kernel), ?_⟩
  refine List.forall_mem_cons.mpr ⟨s_aload_n (pc := 456) X (i := 1) (by decide +kernel) rfl, ?_⟩
  refine List.forall_mem_cons.mpr ⟨s_aload_n (pc := 457) X (i := 0) (by decide +kernel) rfl, ?_⟩
  refine List.forall_mem_cons.mpr ⟨s_iload_n (pc := 458) X (i := 3) (by decide +kernel) rfl, ?_⟩
  refine List.forall_mem_cons.mpr ⟨s_iconst (pc := 459) X (n := 1) (by decide +kernel) (by decide), ?_⟩
  refine List.forall_mem_cons.mpr ⟨s_iadd (pc := 460) X (by decide +kernel), ?_⟩
  refine List.forall_mem_cons.mpr ⟨s_iald (pc := 461) X (by decide +kernel), ?_⟩
  refine List.forall_mem_cons.mpr ⟨s_aload_n (pc := 462) X (i := 0) (by decide +kernel) rfl, ?_⟩
  refine List.forall_mem_cons.mpr ⟨s_iload_n (pc := 463) X (i := 3) (by decide +kernel) rfl, ?_⟩
  refine List.forall_mem_cons.mpr ⟨s_iconst (pc := 464) X (n := 2) (by decide +kernel) (by decide), ?_⟩
  refine List.forall_mem_cons.mpr ⟨s_iadd (pc := 465) X (by decide +kernel), ?_⟩
  exact fun _ h => absurd h List.not_mem_nil
def T_L_law_7 (E : Ex) (env : Nat → Mf) : List (Nat × Stq) := [(466, o_ia SH E 467),
  (467, o_callV SH env 470 36 2 4),
  (470, o_al 471 2),
  (471, o_al 472 0),
  (472, o_il 473 3),
  (473, o_ic 474 (1)),
  (474, o_b2 475 (fun x y => x + y)),
  (475, o_ia SH E 476),
  (476, o_al 477 0),
  (477, o_il 478 3),
  (478, o_ic 479 (2)),
  (479, o_b2 480 (fun x y => x + y)),
  (480, o_ia SH E 481),
  (481, o_callV SH env 484 85 2 5),
  (484, o_eq 897 487),
  (487, o_ic 488 (0)),
  (488, o_retZ),
  (489, o_al 490 1),
  (490, o_al 491 0),
  (491, o_il 492 3),
  (492, o_ic 493 (1)),
  (493, o_b2 494 (fun x y => x + y)),
  (494, o_ia SH E 495),
  (495, o_callV SH env 498 37 1 4),
  (498, o_al 499 2),
  (499, o_al 500 0),
  (500, o_il 501 3),
  (501, o_ic 502 (1)),
  (502, o_b2 503 (fun x y => x + y)),
  (503, o_ia SH E 504),
  (504, o_callV SH env 507 88 1 5),
  (507, o_eq 897 510),
  (510, o_ic 511 (0)),
  (511, o_retZ),
  (512, o_al 513 1),
  (513, o_callV SH env 516 38 0 4),
  (516, o_al 517 2),
  (517, o_callV SH env 520 89 0 5),
  (520, o_eq 897 523),
  (523, o_ic 524 (0))]
set_option maxRecDepth 100000 in
set_option maxHeartbeats 4000000 in
theorem ts_L_law_7 {p : Program} {l : Launch} {e : Env} {R : Room} {s : State} {m : MethodId} {args : Array Value} {below : List Frame} {meth : Method} {c : Code} {cells slots : Nat} {Q : State → Prop} {D : va_G} {C : CI3} {A : Nat → Prop} {ad : Nat → Nat} {E : Ex} {env : Nat → Mf} {d : Nat} (X : Cx p R s m args c cL_law 4 RL D C A ad SH E) (hR : d ≤ R.frames ∧ 100 * d ≤ R.locals) (hcs : cells ≤ R.cells ∧ slots ≤ R.slots) {d_X4_table : Nat} (h_X4_table : CM l SH E yX4_table cX4_table 2 (some .boolean) d_X4_table (env 28)) (hd_X4_table : d_X4_table + 1 ≤ d) {d_X5_table : Nat} (h_X5_table : CM l SH E yX5_table cX5_table 3 (some .boolean) d_X5_table (env 72)) (hd_X5_table : d_X5_table + 1 ≤ d) {d_X4_put : Nat} (h_X4_put : CM l SH E yX4_put cX4_put 8 (some .boolean) d_X4_put (env 29)) (hd_X4_put : d_X4_put + 1 ≤ d) {d_X5_put : Nat} (h_X5_put : CM l SH E yX5_put cX5_put 11 (some .boolean) d_X5_put (env 74)) (hd_X5_put : d_X5_put + 1 ≤ d) {d_X4_change : Nat} (h_X4_change : CM l SH E yX4_change cX4_change 4 (some .boolean) d_X4_change (env 30)) (hd_X4_change : d_X4_change + 1 ≤ d) {d_X5_change : Nat} (h_X5_change : CM l SH E yX5_change cX5_change 4 (some .boolean) d_X5_change (env 75)) (hd_X5_change : d_X5_change + 1 ≤ d) {d_X4_strike : Nat} (h_X4_strike : CM l SH E yX4_strike cX4_strike 2 (some .boolean) d_X4_strike (env 31)) (hd_X4_strike : d_X4_strike + 1 ≤ d) {d_X5_strike : Nat} (h_X5_strike : CM l SH E yX5_strike cX5_strike 2 (some .boolean) d_X5_strike (env 76)) (hd_X5_strike : d_X5_strike + 1 ≤ d) {d_X4_price : Nat} (h_X4_price : CM l SH E yX4_price cX4_price 3 (some .boolean) d_X4_price (env 32)) (hd_X4_price : d_X4_price + 1 ≤ d) {d_X5_price : Nat} (h_X5_price : CM l SH E yX5_price cX5_price 3 (some .boolean) d_X5_price (env 77)) (hd_X5_price : d_X5_price + 1 ≤ d) {d_X4_swap : Nat} (h_X4_swap : CM l SH E yX4_swap cX4_swap 3 (some .boolean) d_X4_swap (env 33)) (hd_X4_swap : d_X4_swap + 1 ≤ d) {d_X5_swap : Nat} (h_X5_swap : CM l SH E yX5_swap cX5_swap 5 (some .boolean) d_X5_swap (env 78)) (hd_X5_swap : d_X5_swap + 1 ≤ d) {d_X4_at : Nat} (h_X4_at : CM l SH E yX4_at cX4_at 3 (some .int) d_X4_at (env 34)) (hd_X4_at : d_X4_at + 1 ≤ d) {d_X5_at : Nat} (h_X5_at : CM l SH E yX5_at cX5_at 3 (some .int) d_X5_at (env 79)) (hd_X5_at : d_X5_at + 1 ≤ d) {d_X4_row : Nat} (h_X4_row : CM l SH E yX4_row cX4_row 3 (some .int) d_X4_row (env 35)) (hd_X4_row : d_X4_row + 1 ≤ d) {d_X5_row : Nat} (h_X5_row : CM l SH E yX5_row cX5_row 3 (some .int) d_X5_row (env 80)) (hd_X5_row : d_X5_row + 1 ≤ d) {d_X4_between : Nat} (h_X4_between : CM l SH E yX4_between cX4_between 3 (some .int) d_X4_between (env 36)) (hd_X4_between : d_X4_between + 1 ≤ d) {d_X5_between : Nat} (h_X5_between : CM l SH E yX5_between cX5_between 3 (some .int) d_X5_between (env 85)) (hd_X5_between : d_X5_between + 1 ≤ d) {d_X4_pairs : Nat} (h_X4_pairs : CM l SH E yX4_pairs cX4_pairs 2 (some .int) d_X4_pairs (env 37)) (hd_X4_pairs : d_X4_pairs + 1 ≤ d) {d_X5_pairs : Nat} (h_X5_pairs : CM l SH E yX5_pairs cX5_pairs 3 (some .int) d_X5_pairs (env 88)) (hd_X5_pairs : d_X5_pairs + 1 ≤ d) {d_X4_kinds : Nat} (h_X4_kinds : CM l SH E yX4_kinds cX4_kinds 1 (some .int) d_X4_kinds (env 38)) (hd_X4_kinds : d_X4_kinds + 1 ≤ d) {d_X5_kinds : Nat} (h_X5_kinds : CM l SH E yX5_kinds cX5_kinds 3 (some .int) d_X5_kinds (env 89)) (hd_X5_kinds : d_X5_kinds + 1 ≤ d) {d_X4_broken : Nat} (h_X4_broken : CM l SH E yX4_broken cX4_broken 2 (some .int) d_X4_broken (env 39)) (hd_X4_broken : d_X4_broken + 1 ≤ d) {d_X5_broken : Nat} (h_X5_broken : CM l SH E yX5_broken cX5_broken 2 (some .int) d_X5_broken (env 97)) (hd_X5_broken : d_X5_broken + 1 ≤ d) {d_X4_breaker : Nat} (h_X4_breaker : CM l SH E yX4_breaker cX4_breaker 7 (some .int) d_X4_breaker (env 40)) (hd_X4_breaker : d_X4_breaker + 1 ≤ d) {d_X5_breaker : Nat} (h_X5_breaker : CM l SH E yX5_breaker cX5_breaker 7 (some .int) d_X5_breaker (env 98)) (hd_X5_breaker : d_X5_breaker + 1 ≤ d) {d_X4_laws : Nat} (h_X4_laws : CM l SH E yX4_laws cX4_laws 5 (some .int) d_X4_laws (env 41)) (hd_X4_laws : d_X4_laws + 1 ≤ d) {d_X5_laws : Nat} (h_X5_laws : CM l SH E yX5_laws cX5_laws 3 (some .int) d_X5_laws (env 104)) (hd_X5_laws : d_X5_laws + 1 ≤ d) {d_X4_law : Nat} (h_X4_law : CM l SH E yX4_law cX4_law 6 (some .int) d_X4_law (env 42)) (hd_X4_law : d_X4_law + 1 ≤ d) {d_X5_law : Nat} (h_X5_law : CM l SH E yX5_law cX5_law 4 (some .int) d_X5_law (env 105)) (hd_X5_law : d_X5_law + 1 ≤ d) {d_X4_sort : Nat} (h_X4_sort : CM l SH E yX4_sort cX4_sort 6 (some .int) d_X4_sort (env 43)) (hd_X4_sort : d_X4_sort + 1 ≤ d) {d_X5_sort : Nat} (h_X5_sort : CM l SH E yX5_sort cX5_sort 7 (some .int) d_X5_sort (env 106)) (hd_X5_sort : d_X5_sort + 1 ≤ d) {d_X4_least : Nat} (h_X4_least : CM l SH E yX4_least cX4_least 2 (some .int) d_X4_least (env 44)) (hd_X4_least : d_X4_least + 1 ≤ d) {d_X5_least : Nat} (h_X5_least : CM l SH E yX5_least cX5_least 2 (some .int) d_X5_least (env 93)) (hd_X5_least : d_X5_least + 1 ≤ d) {d_X4_said : Nat} (h_X4_said : CM l SH E yX4_said cX4_said 3 (some .int) d_X4_said (env 45)) (hd_X4_said : d_X4_said + 1 ≤ d) {d_X5_said : Nat} (h_X5_said : CM l SH E yX5_said cX5_said 3 (some .int) d_X5_said (env 101)) (hd_X5_said : d_X5_said + 1 ≤ d) {d_X4_settles : Nat} (h_X4_settles : CM l SH E yX4_settles cX4_settles 4 (some .int) d_X4_settles (env 46)) (hd_X4_settles : d_X4_settles + 1 ≤ d) {d_X5_settles : Nat} (h_X5_settles : CM l SH E yX5_settles cX5_settles 6 (some .int) d_X5_settles (env 109)) (hd_X5_settles : d_X5_settles + 1 ≤ d) {d_X4_keys : Nat} (h_X4_keys : CM l SH E yX4_keys cX4_keys 3 (some .int) d_X4_keys (env 47)) (hd_X4_keys : d_X4_keys + 1 ≤ d) {d_X5_keys : Nat} (h_X5_keys : CM l SH E yX5_keys cX5_keys 3 (some .int) d_X5_keys (env 112)) (hd_X5_keys : d_X5_keys + 1 ≤ d) {d_X4_key : Nat} (h_X4_key : CM l SH E yX4_key cX4_key 4 (some .int) d_X4_key (env 48)) (hd_X4_key : d_X4_key + 1 ≤ d) {d_X5_key : Nat} (h_X5_key : CM l SH E yX5_key cX5_key 4 (some .int) d_X5_key (env 113)) (hd_X5_key : d_X5_key + 1 ≤ d) {d_X4_tell : Nat} (h_X4_tell : CM l SH E yX4_tell cX4_tell 3 (some .boolean) d_X4_tell (env 49)) (hd_X4_tell : d_X4_tell + 1 ≤ d) {d_X5_tell : Nat} (h_X5_tell : CM l SH E yX5_tell cX5_tell 3 (some .boolean) d_X5_tell (env 114)) (hd_X5_tell : d_X5_tell + 1 ≤ d) {d_X4_told : Nat} (h_X4_told : CM l SH E yX4_told cX4_told 2 (some .int) d_X4_told (env 50)) (hd_X4_told : d_X4_told + 1 ≤ d) {d_X5_told : Nat} (h_X5_told : CM l SH E yX5_told cX5_told 2 (some .int) d_X5_told (env 115)) (hd_X5_told : d_X5_told + 1 ≤ d) {d_X4_mend : Nat} (h_X4_mend : CM l SH E yX4_mend cX4_mend 2 (some .int) d_X4_mend (env 51)) (hd_X4_mend : d_X4_mend + 1 ≤ d) {d_X5_mend : Nat} (h_X5_mend : CM l SH E yX5_mend cX5_mend 10 (some .int) d_X5_mend (env 117)) (hd_X5_mend : d_X5_mend + 1 ≤ d) {d_X4_undo : Nat} (h_X4_undo : CM l SH E yX4_undo cX4_undo 1 (some .boolean) d_X4_undo (env 52)) (hd_X4_undo : d_X4_undo + 1 ≤ d) {d_X5_undo : Nat} (h_X5_undo : CM l SH E yX5_undo cX5_undo 2 (some .boolean) d_X5_undo (env 71)) (hd_X5_undo : d_X5_undo + 1 ≤ d) : ∀ q ∈ T_L_law_7 E env, SS p l e R s m args below meth c cells slots Q D C A ad SH 4 cL_law (some .boolean) q.1 q.2 := by
  unfold T_L_law_7
  refine List.forall_mem_cons.mpr ⟨s_iald (pc := 466) X (by decide +kernel), ?_⟩
  refine List.forall_mem_cons.mpr ⟨s_callV (pc := 467) X (idx := 50) (by decide +kernel) h_X4_between rfl lk_RL_50 ls_X4_between lz_X4_between li_RX4 lc_X4_between hv_X4_between ⟨Nat.le_trans hd_X4_between hR.1, Nat.le_trans (by have := hd_X4_between; omega) hR.2⟩ hcs, ?_⟩
  refine List.forall_mem_cons.mpr ⟨s_aload_n (pc := 470) X (i := 2) (by decide +kernel) rfl, ?_⟩
  refine List.forall_mem_cons.mpr ⟨s_aload_n (pc := 471) X (i := 0) (by decide +kernel) rfl, ?_⟩
  refine List.forall_mem_cons.mpr ⟨s_iload_n (pc := 472) X (i := 3) (by decide +kernel) rfl, ?_⟩
  refine List.forall_mem_cons.mpr ⟨s_iconst (pc := 473) X (n := 1) (by decide +kernel) (by decide), ?_⟩
  refine List.forall_mem_cons.mpr ⟨s_iadd (pc := 474) X (by decide +kernel), ?_⟩
  refine List.forall_mem_cons.mpr ⟨s_iald (pc := 475) X (by decide +kernel), ?_⟩
  refine List.forall_mem_cons.mpr ⟨s_aload_n (pc := 476) X (i := 0) (by decide +kernel) rfl, ?_⟩
  refine List.forall_mem_cons.mpr ⟨s_iload_n (pc := 477) X (i := 3) (by decide +kernel) rfl, ?_⟩
  refine List.forall_mem_cons.mpr ⟨s_iconst (pc := 478) X (n := 2) (by decide +kernel) (by decide), ?_⟩
  refine List.forall_mem_cons.mpr ⟨s_iadd (pc := 479) X (by decide +kernel), ?_⟩
  refine List.forall_mem_cons.mpr ⟨s_iald (pc := 480) X (by decide +kernel), ?_⟩
  refine List.forall_mem_cons.mpr ⟨s_callV (pc := 481) X (idx := 53) (by decide +kernel) h_X5_between rfl lk_RL_53 ls_X5_between lz_X5_between li_RX5 lc_X5_between hv_X5_between ⟨Nat.le_trans hd_X5_between hR.1, Nat.le_trans (by have := hd_X5_between; omega) hR.2⟩ hcs, ?_⟩
  refine List.forall_mem_cons.mpr ⟨s_eq (pc := 484) X (off := 413) (by decide +kernel) (by decide), ?_⟩
  refine List.forall_mem_cons.mpr ⟨s_iconst (pc := 487) X (n := 0) (by decide +kernel) (by decide), ?_⟩
  refine List.forall_mem_cons.mpr ⟨s_retZ (pc := 488) (by decide +kernel), ?_⟩
  refine List.forall_mem_cons.mpr ⟨s_aload_n (pc := 489) X (i := 1) (by decide +kernel) rfl, ?_⟩
  refine List.forall_mem_cons.mpr ⟨s_aload_n (pc := 490) X (i := 0) (by decide +kernel) rfl, ?_⟩
  refine List.forall_mem_cons.mpr ⟨s_iload_n (pc := 491) X (i := 3) (by decide +kernel) rfl, ?_⟩
  refine List.forall_mem_cons.mpr ⟨s_iconst (pc := 492) X (n := 1) (by decide +kernel) (by decide), ?_⟩
  refine List.forall_mem_cons.mpr ⟨s_iadd (pc := 493) X (by decide +kernel), ?_⟩
  refine List.forall_mem_cons.mpr ⟨s_iald (pc := 494) X (by decide +kernel), ?_⟩
  refine List.forall_mem_cons.mpr ⟨s_callV (pc := 495) X (idx := 54) (by decide +kernel) h_X4_pairs rfl lk_RL_54 ls_X4_pairs lz_X4_pairs li_RX4 lc_X4_pairs hv_X4_pairs ⟨Nat.le_trans hd_X4_pairs hR.1, Nat.le_trans (by have := hd_X4_pairs; omega) hR.2⟩ hcs, ?_⟩
  refine List.forall_mem_cons.mpr ⟨s_aload_n (pc := 498) X (i := 2) (by decide +kernel) rfl, ?_⟩
  refine List.forall_mem_cons.mpr ⟨s_aload_n (pc := 499) X (i := 0) (by decide +kernel) rfl, ?_⟩
  refine List.forall_mem_cons.mpr ⟨s_iload_n (pc := 500) X (i := 3) (by decide +kernel) rfl, ?_⟩
  refine List.forall_mem_cons.mpr ⟨s_iconst (pc := 501) X (n := 1) (by decide +kernel) (by decide), ?_⟩
  refine List.forall_mem_cons.mpr ⟨s_iadd (pc := 502) X (by decide +kernel), ?_⟩
  refine List.forall_mem_cons.mpr ⟨s_iald (pc := 503) X (by decide +kernel), ?_⟩
  refine List.forall_mem_cons.mpr ⟨s_callV (pc := 504) X (idx := 58) (by decide +kernel) h_X5_pairs rfl lk_RL_58 ls_X5_pairs lz_X5_pairs li_RX5 lc_X5_pairs hv_X5_pairs ⟨Nat.le_trans hd_X5_pairs hR.1, Nat.le_trans (by have := hd_X5_pairs; omega) hR.2⟩ hcs, ?_⟩
  refine List.forall_mem_cons.mpr ⟨s_eq (pc := 507) X (off := 390) (by decide +kernel) (by decide), ?_⟩
  refine List.forall_mem_cons.mpr ⟨s_iconst (pc := 510) X (n := 0) (by decide +kernel) (by decide), ?_⟩
  refine List.forall_mem_cons.mpr ⟨s_retZ (pc := 511) (by decide +kernel), ?_⟩
  refine List.forall_mem_cons.mpr ⟨s_aload_n (pc := 512) X (i := 1) (by decide +kernel) rfl, ?_⟩
  refine List.forall_mem_cons.mpr ⟨s_callV (pc := 513) X (idx := 59) (by decide +kernel) h_X4_kinds rfl lk_RL_59 ls_X4_kinds lz_X4_kinds li_RX4 lc_X4_kinds hv_X4_kinds ⟨Nat.le_trans hd_X4_kinds hR.1, Nat.le_trans (by have := hd_X4_kinds; omega) hR.2⟩ hcs, ?_⟩
  refine List.forall_mem_cons.mpr ⟨s_aload_n (pc := 516) X (i := 2) (by decide +kernel) rfl, ?_⟩
  refine List.forall_mem_cons.mpr ⟨s_callV (pc := 517) X (idx := 63) (by decide +kernel) h_X5_kinds rfl lk_RL_63 ls_X5_kinds lz_X5_kinds li_RX5 lc_X5_kinds hv_X5_kinds ⟨Nat.le_trans hd_X5_kinds hR.1, Nat.le_trans (by have := hd_X5_kinds; omega) hR.2⟩ hcs, ?_⟩
  refine List.forall_mem_cons.mpr ⟨s_eq (pc := 520) X (off := 377) (by decide +kernel) (by decide), ?_⟩
  refine List.forall_mem_cons.mpr ⟨s_iconst (pc := 523) X (n := 0) (by decide +kernel) (by decide), ?_⟩
  exact fun _ h => absurd h List.not_mem_nil
def T_L_law_8 (E : Ex) (env : Nat → Mf) : List (Nat × Stq) := [(524, o_retZ),
  (525, o_al 526 1),
  (526, o_al 527 0),
  (527, o_il 528 3),
  (528, o_ic 529 (1)),
  (529, o_b2 530 (fun x y => x + y)),
  (530, o_ia SH E 531),
  (531, o_callV SH env 534 39 1 4),
  (534, o_al 535 2),
  (535, o_al 536 0),
  (536, o_il 537 3),
  (537, o_ic 538 (1)),
  (538, o_b2 539 (fun x y => x + y)),
  (539, o_ia SH E 540),
  (540, o_callV SH env 543 97 1 5),
  (543, o_eq 897 546),
  (546, o_ic 547 (0)),
  (547, o_retZ),
  (548, o_al 549 1),
  (549, o_al 550 0),
  (550, o_il 551 3),
  (551, o_ic 552 (1)),
  (552, o_b2 553 (fun x y => x + y)),
  (553, o_ia SH E 554),
  (554, o_al 555 0),
  (555, o_il 556 3),
  (556, o_ic 557 (2)),
  (557, o_b2 558 (fun x y => x + y)),
  (558, o_ia SH E 559),
  (559, o_al 560 0),
  (560, o_il 561 3),
  (561, o_ic 562 (3)),
  (562, o_b2 563 (fun x y => x + y)),
  (563, o_ia SH E 564),
  (564, o_callV SH env 567 40 3 4),
  (567, o_al 568 2),
  (568, o_al 569 0),
  (569, o_il 570 3),
  (570, o_ic 571 (1)),
  (571, o_b2 572 (fun x y => x + y))]
set_option maxRecDepth 100000 in
set_option maxHeartbeats 4000000 in
theorem ts_L_law_8 {p : Program} {l : Launch} {e : Env} {R : Room} {s : State} {m : MethodId} {args : Array Value} {below : List Frame} {meth : Method} {c : Code} {cells slots : Nat} {Q : State → Prop} {D : va_G} {C : CI3} {A : Nat → Prop} {ad : Nat → Nat} {E : Ex} {env : Nat → Mf} {d : Nat} (X : Cx p R s m args c cL_law 4 RL D C A ad SH E) (hR : d ≤ R.frames ∧ 100 * d ≤ R.locals) (hcs : cells ≤ R.cells ∧ slots ≤ R.slots) {d_X4_table : Nat} (h_X4_table : CM l SH E yX4_table cX4_table 2 (some .boolean) d_X4_table (env 28)) (hd_X4_table : d_X4_table + 1 ≤ d) {d_X5_table : Nat} (h_X5_table : CM l SH E yX5_table cX5_table 3 (some .boolean) d_X5_table (env 72)) (hd_X5_table : d_X5_table + 1 ≤ d) {d_X4_put : Nat} (h_X4_put : CM l SH E yX4_put cX4_put 8 (some .boolean) d_X4_put (env 29)) (hd_X4_put : d_X4_put + 1 ≤ d) {d_X5_put : Nat} (h_X5_put : CM l SH E yX5_put cX5_put 11 (some .boolean) d_X5_put (env 74)) (hd_X5_put : d_X5_put + 1 ≤ d) {d_X4_change : Nat} (h_X4_change : CM l SH E yX4_change cX4_change 4 (some .boolean) d_X4_change (env 30)) (hd_X4_change : d_X4_change + 1 ≤ d) {d_X5_change : Nat} (h_X5_change : CM l SH E yX5_change cX5_change 4 (some .boolean) d_X5_change (env 75)) (hd_X5_change : d_X5_change + 1 ≤ d) {d_X4_strike : Nat} (h_X4_strike : CM l SH E yX4_strike cX4_strike 2 (some .boolean) d_X4_strike (env 31)) (hd_X4_strike : d_X4_strike + 1 ≤ d) {d_X5_strike : Nat} (h_X5_strike : CM l SH E yX5_strike cX5_strike 2 (some .boolean) d_X5_strike (env 76)) (hd_X5_strike : d_X5_strike + 1 ≤ d) {d_X4_price : Nat} (h_X4_price : CM l SH E yX4_price cX4_price 3 (some .boolean) d_X4_price (env 32)) (hd_X4_price : d_X4_price + 1 ≤ d) {d_X5_price : Nat} (h_X5_price : CM l SH E yX5_price cX5_price 3 (some .boolean) d_X5_price (env 77)) (hd_X5_price : d_X5_price + 1 ≤ d) {d_X4_swap : Nat} (h_X4_swap : CM l SH E yX4_swap cX4_swap 3 (some .boolean) d_X4_swap (env 33)) (hd_X4_swap : d_X4_swap + 1 ≤ d) {d_X5_swap : Nat} (h_X5_swap : CM l SH E yX5_swap cX5_swap 5 (some .boolean) d_X5_swap (env 78)) (hd_X5_swap : d_X5_swap + 1 ≤ d) {d_X4_at : Nat} (h_X4_at : CM l SH E yX4_at cX4_at 3 (some .int) d_X4_at (env 34)) (hd_X4_at : d_X4_at + 1 ≤ d) {d_X5_at : Nat} (h_X5_at : CM l SH E yX5_at cX5_at 3 (some .int) d_X5_at (env 79)) (hd_X5_at : d_X5_at + 1 ≤ d) {d_X4_row : Nat} (h_X4_row : CM l SH E yX4_row cX4_row 3 (some .int) d_X4_row (env 35)) (hd_X4_row : d_X4_row + 1 ≤ d) {d_X5_row : Nat} (h_X5_row : CM l SH E yX5_row cX5_row 3 (some .int) d_X5_row (env 80)) (hd_X5_row : d_X5_row + 1 ≤ d) {d_X4_between : Nat} (h_X4_between : CM l SH E yX4_between cX4_between 3 (some .int) d_X4_between (env 36)) (hd_X4_between : d_X4_between + 1 ≤ d) {d_X5_between : Nat} (h_X5_between : CM l SH E yX5_between cX5_between 3 (some .int) d_X5_between (env 85)) (hd_X5_between : d_X5_between + 1 ≤ d) {d_X4_pairs : Nat} (h_X4_pairs : CM l SH E yX4_pairs cX4_pairs 2 (some .int) d_X4_pairs (env 37)) (hd_X4_pairs : d_X4_pairs + 1 ≤ d) {d_X5_pairs : Nat} (h_X5_pairs : CM l SH E yX5_pairs cX5_pairs 3 (some .int) d_X5_pairs (env 88)) (hd_X5_pairs : d_X5_pairs + 1 ≤ d) {d_X4_kinds : Nat} (h_X4_kinds : CM l SH E yX4_kinds cX4_kinds 1 (some .int) d_X4_kinds (env 38)) (hd_X4_kinds : d_X4_kinds + 1 ≤ d) {d_X5_kinds : Nat} (h_X5_kinds : CM l SH E yX5_kinds cX5_kinds 3 (some .int) d_X5_kinds (env 89)) (hd_X5_kinds : d_X5_kinds + 1 ≤ d) {d_X4_broken : Nat} (h_X4_broken : CM l SH E yX4_broken cX4_broken 2 (some .int) d_X4_broken (env 39)) (hd_X4_broken : d_X4_broken + 1 ≤ d) {d_X5_broken : Nat} (h_X5_broken : CM l SH E yX5_broken cX5_broken 2 (some .int) d_X5_broken (env 97)) (hd_X5_broken : d_X5_broken + 1 ≤ d) {d_X4_breaker : Nat} (h_X4_breaker : CM l SH E yX4_breaker cX4_breaker 7 (some .int) d_X4_breaker (env 40)) (hd_X4_breaker : d_X4_breaker + 1 ≤ d) {d_X5_breaker : Nat} (h_X5_breaker : CM l SH E yX5_breaker cX5_breaker 7 (some .int) d_X5_breaker (env 98)) (hd_X5_breaker : d_X5_breaker + 1 ≤ d) {d_X4_laws : Nat} (h_X4_laws : CM l SH E yX4_laws cX4_laws 5 (some .int) d_X4_laws (env 41)) (hd_X4_laws : d_X4_laws + 1 ≤ d) {d_X5_laws : Nat} (h_X5_laws : CM l SH E yX5_laws cX5_laws 3 (some .int) d_X5_laws (env 104)) (hd_X5_laws : d_X5_laws + 1 ≤ d) {d_X4_law : Nat} (h_X4_law : CM l SH E yX4_law cX4_law 6 (some .int) d_X4_law (env 42)) (hd_X4_law : d_X4_law + 1 ≤ d) {d_X5_law : Nat} (h_X5_law : CM l SH E yX5_law cX5_law 4 (some .int) d_X5_law (env 105)) (hd_X5_law : d_X5_law + 1 ≤ d) {d_X4_sort : Nat} (h_X4_sort : CM l SH E yX4_sort cX4_sort 6 (some .int) d_X4_sort (env 43)) (hd_X4_sort : d_X4_sort + 1 ≤ d) {d_X5_sort : Nat} (h_X5_sort : CM l SH E yX5_sort cX5_sort 7 (some .int) d_X5_sort (env 106)) (hd_X5_sort : d_X5_sort + 1 ≤ d) {d_X4_least : Nat} (h_X4_least : CM l SH E yX4_least cX4_least 2 (some .int) d_X4_least (env 44)) (hd_X4_least : d_X4_least + 1 ≤ d) {d_X5_least : Nat} (h_X5_least : CM l SH E yX5_least cX5_least 2 (some .int) d_X5_least (env 93)) (hd_X5_least : d_X5_least + 1 ≤ d) {d_X4_said : Nat} (h_X4_said : CM l SH E yX4_said cX4_said 3 (some .int) d_X4_said (env 45)) (hd_X4_said : d_X4_said + 1 ≤ d) {d_X5_said : Nat} (h_X5_said : CM l SH E yX5_said cX5_said 3 (some .int) d_X5_said (env 101)) (hd_X5_said : d_X5_said + 1 ≤ d) {d_X4_settles : Nat} (h_X4_settles : CM l SH E yX4_settles cX4_settles 4 (some .int) d_X4_settles (env 46)) (hd_X4_settles : d_X4_settles + 1 ≤ d) {d_X5_settles : Nat} (h_X5_settles : CM l SH E yX5_settles cX5_settles 6 (some .int) d_X5_settles (env 109)) (hd_X5_settles : d_X5_settles + 1 ≤ d) {d_X4_keys : Nat} (h_X4_keys : CM l SH E yX4_keys cX4_keys 3 (some .int) d_X4_keys (env 47)) (hd_X4_keys : d_X4_keys + 1 ≤ d) {d_X5_keys : Nat} (h_X5_keys : CM l SH E yX5_keys cX5_keys 3 (some .int) d_X5_keys (env 112)) (hd_X5_keys : d_X5_keys + 1 ≤ d) {d_X4_key : Nat} (h_X4_key : CM l SH E yX4_key cX4_key 4 (some .int) d_X4_key (env 48)) (hd_X4_key : d_X4_key + 1 ≤ d) {d_X5_key : Nat} (h_X5_key : CM l SH E yX5_key cX5_key 4 (some .int) d_X5_key (env 113)) (hd_X5_key : d_X5_key + 1 ≤ d) {d_X4_tell : Nat} (h_X4_tell : CM l SH E yX4_tell cX4_tell 3 (some .boolean) d_X4_tell (env 49)) (hd_X4_tell : d_X4_tell + 1 ≤ d) {d_X5_tell : Nat} (h_X5_tell : CM l SH E yX5_tell cX5_tell 3 (some .boolean) d_X5_tell (env 114)) (hd_X5_tell : d_X5_tell + 1 ≤ d) {d_X4_told : Nat} (h_X4_told : CM l SH E yX4_told cX4_told 2 (some .int) d_X4_told (env 50)) (hd_X4_told : d_X4_told + 1 ≤ d) {d_X5_told : Nat} (h_X5_told : CM l SH E yX5_told cX5_told 2 (some .int) d_X5_told (env 115)) (hd_X5_told : d_X5_told + 1 ≤ d) {d_X4_mend : Nat} (h_X4_mend : CM l SH E yX4_mend cX4_mend 2 (some .int) d_X4_mend (env 51)) (hd_X4_mend : d_X4_mend + 1 ≤ d) {d_X5_mend : Nat} (h_X5_mend : CM l SH E yX5_mend cX5_mend 10 (some .int) d_X5_mend (env 117)) (hd_X5_mend : d_X5_mend + 1 ≤ d) {d_X4_undo : Nat} (h_X4_undo : CM l SH E yX4_undo cX4_undo 1 (some .boolean) d_X4_undo (env 52)) (hd_X4_undo : d_X4_undo + 1 ≤ d) {d_X5_undo : Nat} (h_X5_undo : CM l SH E yX5_undo cX5_undo 2 (some .boolean) d_X5_undo (env 71)) (hd_X5_undo : d_X5_undo + 1 ≤ d) : ∀ q ∈ T_L_law_8 E env, SS p l e R s m args below meth c cells slots Q D C A ad SH 4 cL_law (some .boolean) q.1 q.2 := by
  unfold T_L_law_8
  refine List.forall_mem_cons.mpr ⟨s_retZ (pc := 524) (by decide +kernel), ?_⟩
  refine List.forall_mem_cons.mpr ⟨s_aload_n (pc := 525) X (i := 1) (by decide +kernel) rfl, ?_⟩
  refine List.forall_mem_cons.mpr ⟨s_aload_n (pc := 526) X (i := 0) (by decide +kernel) rfl, ?_⟩
  refine List.forall_mem_cons.mpr ⟨s_iload_n (pc := 527) X (i := 3) (by decide +kernel) rfl, ?_⟩
  refine List.forall_mem_cons.mpr ⟨s_iconst (pc := 528) X (n := 1) (by decide +kernel) (by decide), ?_⟩
  refine List.forall_mem_cons.mpr ⟨s_iadd (pc := 529) X (by decide +kernel), ?_⟩
  refine List.forall_mem_cons.mpr ⟨s_iald (pc := 530) X (by decide +kernel), ?_⟩
  refine List.forall_mem_cons.mpr ⟨s_callV (pc := 531) X (idx := 64) (by decide +kernel) h_X4_broken rfl lk_RL_64 ls_X4_broken lz_X4_broken li_RX4 lc_X4_broken hv_X4_broken ⟨Nat.le_trans hd_X4_broken hR.1, Nat.le_trans (by have := hd_X4_broken; omega) hR.2⟩ hcs, ?_⟩
  refine List.forall_mem_cons.mpr ⟨s_aload_n (pc := 534) X (i := 2) (by decide +kernel) rfl, ?_⟩
  refine List.forall_mem_cons.mpr ⟨s_aload_n (pc := 535) X (i := 0) (by decide +kernel) rfl, ?_⟩
  refine List.forall_mem_cons.mpr ⟨s_iload_n (pc := 536) X (i := 3) (by decide +kernel) rfl, ?_⟩
  refine List.forall_mem_cons.mpr ⟨s_iconst (pc := 537) X (n := 1) (by decide +kernel) (by decide), ?_⟩
  refine List.forall_mem_cons.mpr ⟨s_iadd (pc := 538) X (by decide +kernel), ?_⟩
  refine List.forall_mem_cons.mpr ⟨s_iald (pc := 539) X (by decide +kernel), ?_⟩
  refine List.forall_mem_cons.mpr ⟨s_callV (pc := 540) X (idx := 67) (by decide +kernel) h_X5_broken rfl lk_RL_67 ls_X5_broken lz_X5_broken li_RX5 lc_X5_broken hv_X5_broken ⟨Nat.le_trans hd_X5_broken hR.1, Nat.le_trans (by have := hd_X5_broken; omega) hR.2⟩ hcs, ?_⟩
  refine List.forall_mem_cons.mpr ⟨s_eq (pc := 543) X (off := 354) (by decide +kernel) (by decide), ?_⟩
  refine List.forall_mem_cons.mpr ⟨s_iconst (pc := 546) X (n := 0) (by decide +kernel) (by decide), ?_⟩
  refine List.forall_mem_cons.mpr ⟨s_retZ (pc := 547) (by decide +kernel), ?_⟩
  refine List.forall_mem_cons.mpr ⟨s_aload_n (pc := 548) X (i := 1) (by decide +kernel) rfl, ?_⟩
  refine List.forall_mem_cons.mpr ⟨s_aload_n (pc := 549) X (i := 0) (by decide +kernel) rfl, ?_⟩
  refine List.forall_mem_cons.mpr ⟨s_iload_n (pc := 550) X (i := 3) (by decide +kernel) rfl, ?_⟩
  refine List.forall_mem_cons.mpr ⟨s_iconst (pc := 551) X (n := 1) (by decide +kernel) (by decide), ?_⟩
  refine List.forall_mem_cons.mpr ⟨s_iadd (pc := 552) X (by decide +kernel), ?_⟩
  refine List.forall_mem_cons.mpr ⟨s_iald (pc := 553) X (by decide +kernel), ?_⟩
  refine List.forall_mem_cons.mpr ⟨s_aload_n (pc := 554) X (i := 0) (by decide +kernel) rfl, ?_⟩
  refine List.forall_mem_cons.mpr ⟨s_iload_n (pc := 555) X (i := 3) (by decide +kernel) rfl, ?_⟩
  refine List.forall_mem_cons.mpr ⟨s_iconst (pc := 556) X (n := 2) (by decide +kernel) (by decide), ?_⟩
  refine List.forall_mem_cons.mpr ⟨s_iadd (pc := 557) X (by decide +kernel), ?_⟩
  refine List.forall_mem_cons.mpr ⟨s_iald (pc := 558) X (by decide +kernel), ?_⟩
  refine List.forall_mem_cons.mpr ⟨s_aload_n (pc := 559) X (i := 0) (by decide +kernel) rfl, ?_⟩
  refine List.forall_mem_cons.mpr ⟨s_iload_n (pc := 560) X (i := 3) (by decide +kernel) rfl, ?_⟩
  refine List.forall_mem_cons.mpr ⟨s_iconst (pc := 561) X (n := 3) (by decide +kernel) (by decide), ?_⟩
  refine List.forall_mem_cons.mpr ⟨s_iadd (pc := 562) X (by decide +kernel), ?_⟩
  refine List.forall_mem_cons.mpr ⟨s_iald (pc := 563) X (by decide +kernel), ?_⟩
  refine List.forall_mem_cons.mpr ⟨s_callV (pc := 564) X (idx := 68) (by decide +kernel) h_X4_breaker rfl lk_RL_68 ls_X4_breaker lz_X4_breaker li_RX4 lc_X4_breaker hv_X4_breaker ⟨Nat.le_trans hd_X4_breaker hR.1, Nat.le_trans (by have := hd_X4_breaker; omega) hR.2⟩ hcs, ?_⟩
  refine List.forall_mem_cons.mpr ⟨s_aload_n (pc := 567) X (i := 2) (by decide +kernel) rfl, ?_⟩
  refine List.forall_mem_cons.mpr ⟨s_aload_n (pc := 568) X (i := 0) (by decide +kernel) rfl, ?_⟩
  refine List.forall_mem_cons.mpr ⟨s_iload_n (pc := 569) X (i := 3) (by decide +kernel) rfl, ?_⟩
  refine List.forall_mem_cons.mpr ⟨s_iconst (pc := 570) X (n := 1) (by decide +kernel) (by decide), ?_⟩
  refine List.forall_mem_cons.mpr ⟨s_iadd (pc := 571) X (by decide +kernel), ?_⟩
  exact fun _ h => absurd h List.not_mem_nil
def T_L_law_9 (E : Ex) (env : Nat → Mf) : List (Nat × Stq) := [(572, o_ia SH E 573),
  (573, o_al 574 0),
  (574, o_il 575 3),
  (575, o_ic 576 (2)),
  (576, o_b2 577 (fun x y => x + y)),
  (577, o_ia SH E 578),
  (578, o_al 579 0),
  (579, o_il 580 3),
  (580, o_ic 581 (3)),
  (581, o_b2 582 (fun x y => x + y)),
  (582, o_ia SH E 583),
  (583, o_callV SH env 586 98 3 5),
  (586, o_eq 897 589),
  (589, o_ic 590 (0)),
  (590, o_retZ),
  (591, o_al 592 1),
  (592, o_al 593 0),
  (593, o_il 594 3),
  (594, o_ic 595 (1)),
  (595, o_b2 596 (fun x y => x + y)),
  (596, o_ia SH E 597),
  (597, o_al 598 0),
  (598, o_il 599 3),
  (599, o_ic 600 (2)),
  (600, o_b2 601 (fun x y => x + y)),
  (601, o_ia SH E 602),
  (602, o_callV SH env 605 41 2 4),
  (605, o_al 606 2),
  (606, o_al 607 0),
  (607, o_il 608 3),
  (608, o_ic 609 (1)),
  (609, o_b2 610 (fun x y => x + y)),
  (610, o_ia SH E 611),
  (611, o_al 612 0),
  (612, o_il 613 3),
  (613, o_ic 614 (2)),
  (614, o_b2 615 (fun x y => x + y)),
  (615, o_ia SH E 616),
  (616, o_callV SH env 619 104 2 5),
  (619, o_eq 897 622)]
set_option maxRecDepth 100000 in
set_option maxHeartbeats 4000000 in
theorem ts_L_law_9 {p : Program} {l : Launch} {e : Env} {R : Room} {s : State} {m : MethodId} {args : Array Value} {below : List Frame} {meth : Method} {c : Code} {cells slots : Nat} {Q : State → Prop} {D : va_G} {C : CI3} {A : Nat → Prop} {ad : Nat → Nat} {E : Ex} {env : Nat → Mf} {d : Nat} (X : Cx p R s m args c cL_law 4 RL D C A ad SH E) (hR : d ≤ R.frames ∧ 100 * d ≤ R.locals) (hcs : cells ≤ R.cells ∧ slots ≤ R.slots) {d_X4_table : Nat} (h_X4_table : CM l SH E yX4_table cX4_table 2 (some .boolean) d_X4_table (env 28)) (hd_X4_table : d_X4_table + 1 ≤ d) {d_X5_table : Nat} (h_X5_table : CM l SH E yX5_table cX5_table 3 (some .boolean) d_X5_table (env 72)) (hd_X5_table : d_X5_table + 1 ≤ d) {d_X4_put : Nat} (h_X4_put : CM l SH E yX4_put cX4_put 8 (some .boolean) d_X4_put (env 29)) (hd_X4_put : d_X4_put + 1 ≤ d) {d_X5_put : Nat} (h_X5_put : CM l SH E yX5_put cX5_put 11 (some .boolean) d_X5_put (env 74)) (hd_X5_put : d_X5_put + 1 ≤ d) {d_X4_change : Nat} (h_X4_change : CM l SH E yX4_change cX4_change 4 (some .boolean) d_X4_change (env 30)) (hd_X4_change : d_X4_change + 1 ≤ d) {d_X5_change : Nat} (h_X5_change : CM l SH E yX5_change cX5_change 4 (some .boolean) d_X5_change (env 75)) (hd_X5_change : d_X5_change + 1 ≤ d) {d_X4_strike : Nat} (h_X4_strike : CM l SH E yX4_strike cX4_strike 2 (some .boolean) d_X4_strike (env 31)) (hd_X4_strike : d_X4_strike + 1 ≤ d) {d_X5_strike : Nat} (h_X5_strike : CM l SH E yX5_strike cX5_strike 2 (some .boolean) d_X5_strike (env 76)) (hd_X5_strike : d_X5_strike + 1 ≤ d) {d_X4_price : Nat} (h_X4_price : CM l SH E yX4_price cX4_price 3 (some .boolean) d_X4_price (env 32)) (hd_X4_price : d_X4_price + 1 ≤ d) {d_X5_price : Nat} (h_X5_price : CM l SH E yX5_price cX5_price 3 (some .boolean) d_X5_price (env 77)) (hd_X5_price : d_X5_price + 1 ≤ d) {d_X4_swap : Nat} (h_X4_swap : CM l SH E yX4_swap cX4_swap 3 (some .boolean) d_X4_swap (env 33)) (hd_X4_swap : d_X4_swap + 1 ≤ d) {d_X5_swap : Nat} (h_X5_swap : CM l SH E yX5_swap cX5_swap 5 (some .boolean) d_X5_swap (env 78)) (hd_X5_swap : d_X5_swap + 1 ≤ d) {d_X4_at : Nat} (h_X4_at : CM l SH E yX4_at cX4_at 3 (some .int) d_X4_at (env 34)) (hd_X4_at : d_X4_at + 1 ≤ d) {d_X5_at : Nat} (h_X5_at : CM l SH E yX5_at cX5_at 3 (some .int) d_X5_at (env 79)) (hd_X5_at : d_X5_at + 1 ≤ d) {d_X4_row : Nat} (h_X4_row : CM l SH E yX4_row cX4_row 3 (some .int) d_X4_row (env 35)) (hd_X4_row : d_X4_row + 1 ≤ d) {d_X5_row : Nat} (h_X5_row : CM l SH E yX5_row cX5_row 3 (some .int) d_X5_row (env 80)) (hd_X5_row : d_X5_row + 1 ≤ d) {d_X4_between : Nat} (h_X4_between : CM l SH E yX4_between cX4_between 3 (some .int) d_X4_between (env 36)) (hd_X4_between : d_X4_between + 1 ≤ d) {d_X5_between : Nat} (h_X5_between : CM l SH E yX5_between cX5_between 3 (some .int) d_X5_between (env 85)) (hd_X5_between : d_X5_between + 1 ≤ d) {d_X4_pairs : Nat} (h_X4_pairs : CM l SH E yX4_pairs cX4_pairs 2 (some .int) d_X4_pairs (env 37)) (hd_X4_pairs : d_X4_pairs + 1 ≤ d) {d_X5_pairs : Nat} (h_X5_pairs : CM l SH E yX5_pairs cX5_pairs 3 (some .int) d_X5_pairs (env 88)) (hd_X5_pairs : d_X5_pairs + 1 ≤ d) {d_X4_kinds : Nat} (h_X4_kinds : CM l SH E yX4_kinds cX4_kinds 1 (some .int) d_X4_kinds (env 38)) (hd_X4_kinds : d_X4_kinds + 1 ≤ d) {d_X5_kinds : Nat} (h_X5_kinds : CM l SH E yX5_kinds cX5_kinds 3 (some .int) d_X5_kinds (env 89)) (hd_X5_kinds : d_X5_kinds + 1 ≤ d) {d_X4_broken : Nat} (h_X4_broken : CM l SH E yX4_broken cX4_broken 2 (some .int) d_X4_broken (env 39)) (hd_X4_broken : d_X4_broken + 1 ≤ d) {d_X5_broken : Nat} (h_X5_broken : CM l SH E yX5_broken cX5_broken 2 (some .int) d_X5_broken (env 97)) (hd_X5_broken : d_X5_broken + 1 ≤ d) {d_X4_breaker : Nat} (h_X4_breaker : CM l SH E yX4_breaker cX4_breaker 7 (some .int) d_X4_breaker (env 40)) (hd_X4_breaker : d_X4_breaker + 1 ≤ d) {d_X5_breaker : Nat} (h_X5_breaker : CM l SH E yX5_breaker cX5_breaker 7 (some .int) d_X5_breaker (env 98)) (hd_X5_breaker : d_X5_breaker + 1 ≤ d) {d_X4_laws : Nat} (h_X4_laws : CM l SH E yX4_laws cX4_laws 5 (some .int) d_X4_laws (env 41)) (hd_X4_laws : d_X4_laws + 1 ≤ d) {d_X5_laws : Nat} (h_X5_laws : CM l SH E yX5_laws cX5_laws 3 (some .int) d_X5_laws (env 104)) (hd_X5_laws : d_X5_laws + 1 ≤ d) {d_X4_law : Nat} (h_X4_law : CM l SH E yX4_law cX4_law 6 (some .int) d_X4_law (env 42)) (hd_X4_law : d_X4_law + 1 ≤ d) {d_X5_law : Nat} (h_X5_law : CM l SH E yX5_law cX5_law 4 (some .int) d_X5_law (env 105)) (hd_X5_law : d_X5_law + 1 ≤ d) {d_X4_sort : Nat} (h_X4_sort : CM l SH E yX4_sort cX4_sort 6 (some .int) d_X4_sort (env 43)) (hd_X4_sort : d_X4_sort + 1 ≤ d) {d_X5_sort : Nat} (h_X5_sort : CM l SH E yX5_sort cX5_sort 7 (some .int) d_X5_sort (env 106)) (hd_X5_sort : d_X5_sort + 1 ≤ d) {d_X4_least : Nat} (h_X4_least : CM l SH E yX4_least cX4_least 2 (some .int) d_X4_least (env 44)) (hd_X4_least : d_X4_least + 1 ≤ d) {d_X5_least : Nat} (h_X5_least : CM l SH E yX5_least cX5_least 2 (some .int) d_X5_least (env 93)) (hd_X5_least : d_X5_least + 1 ≤ d) {d_X4_said : Nat} (h_X4_said : CM l SH E yX4_said cX4_said 3 (some .int) d_X4_said (env 45)) (hd_X4_said : d_X4_said + 1 ≤ d) {d_X5_said : Nat} (h_X5_said : CM l SH E yX5_said cX5_said 3 (some .int) d_X5_said (env 101)) (hd_X5_said : d_X5_said + 1 ≤ d) {d_X4_settles : Nat} (h_X4_settles : CM l SH E yX4_settles cX4_settles 4 (some .int) d_X4_settles (env 46)) (hd_X4_settles : d_X4_settles + 1 ≤ d) {d_X5_settles : Nat} (h_X5_settles : CM l SH E yX5_settles cX5_settles 6 (some .int) d_X5_settles (env 109)) (hd_X5_settles : d_X5_settles + 1 ≤ d) {d_X4_keys : Nat} (h_X4_keys : CM l SH E yX4_keys cX4_keys 3 (some .int) d_X4_keys (env 47)) (hd_X4_keys : d_X4_keys + 1 ≤ d) {d_X5_keys : Nat} (h_X5_keys : CM l SH E yX5_keys cX5_keys 3 (some .int) d_X5_keys (env 112)) (hd_X5_keys : d_X5_keys + 1 ≤ d) {d_X4_key : Nat} (h_X4_key : CM l SH E yX4_key cX4_key 4 (some .int) d_X4_key (env 48)) (hd_X4_key : d_X4_key + 1 ≤ d) {d_X5_key : Nat} (h_X5_key : CM l SH E yX5_key cX5_key 4 (some .int) d_X5_key (env 113)) (hd_X5_key : d_X5_key + 1 ≤ d) {d_X4_tell : Nat} (h_X4_tell : CM l SH E yX4_tell cX4_tell 3 (some .boolean) d_X4_tell (env 49)) (hd_X4_tell : d_X4_tell + 1 ≤ d) {d_X5_tell : Nat} (h_X5_tell : CM l SH E yX5_tell cX5_tell 3 (some .boolean) d_X5_tell (env 114)) (hd_X5_tell : d_X5_tell + 1 ≤ d) {d_X4_told : Nat} (h_X4_told : CM l SH E yX4_told cX4_told 2 (some .int) d_X4_told (env 50)) (hd_X4_told : d_X4_told + 1 ≤ d) {d_X5_told : Nat} (h_X5_told : CM l SH E yX5_told cX5_told 2 (some .int) d_X5_told (env 115)) (hd_X5_told : d_X5_told + 1 ≤ d) {d_X4_mend : Nat} (h_X4_mend : CM l SH E yX4_mend cX4_mend 2 (some .int) d_X4_mend (env 51)) (hd_X4_mend : d_X4_mend + 1 ≤ d) {d_X5_mend : Nat} (h_X5_mend : CM l SH E yX5_mend cX5_mend 10 (some .int) d_X5_mend (env 117)) (hd_X5_mend : d_X5_mend + 1 ≤ d) {d_X4_undo : Nat} (h_X4_undo : CM l SH E yX4_undo cX4_undo 1 (some .boolean) d_X4_undo (env 52)) (hd_X4_undo : d_X4_undo + 1 ≤ d) {d_X5_undo : Nat} (h_X5_undo : CM l SH E yX5_undo cX5_undo 2 (some .boolean) d_X5_undo (env 71)) (hd_X5_undo : d_X5_undo + 1 ≤ d) : ∀ q ∈ T_L_law_9 E env, SS p l e R s m args below meth c cells slots Q D C A ad SH 4 cL_law (some .boolean) q.1 q.2 := by
  unfold T_L_law_9
  refine List.forall_mem_cons.mpr ⟨s_iald (pc := 572) X (by decide +kernel), ?_⟩
  refine List.forall_mem_cons.mpr ⟨s_aload_n (pc := 573) X (i := 0) (by decide +kernel) rfl, ?_⟩
  refine List.forall_mem_cons.mpr ⟨s_iload_n (pc := 574) X (i := 3) (by decide +kernel) rfl, ?_⟩
  refine List.forall_mem_cons.mpr ⟨s_iconst (pc := 575) X (n := 2) (by decide +kernel) (by decide), ?_⟩
  refine List.forall_mem_cons.mpr ⟨s_iadd (pc := 576) X (by decide +kernel), ?_⟩
  refine List.forall_mem_cons.mpr ⟨s_iald (pc := 577) X (by decide +kernel), ?_⟩
  refine List.forall_mem_cons.mpr ⟨s_aload_n (pc := 578) X (i := 0) (by decide +kernel) rfl, ?_⟩
  refine List.forall_mem_cons.mpr ⟨s_iload_n (pc := 579) X (i := 3) (by decide +kernel) rfl, ?_⟩
  refine List.forall_mem_cons.mpr ⟨s_iconst (pc := 580) X (n := 3) (by decide +kernel) (by decide), ?_⟩
  refine List.forall_mem_cons.mpr ⟨s_iadd (pc := 581) X (by decide +kernel), ?_⟩
  refine List.forall_mem_cons.mpr ⟨s_iald (pc := 582) X (by decide +kernel), ?_⟩
  refine List.forall_mem_cons.mpr ⟨s_callV (pc := 583) X (idx := 72) (by decide +kernel) h_X5_breaker rfl lk_RL_72 ls_X5_breaker lz_X5_breaker li_RX5 lc_X5_breaker hv_X5_breaker ⟨Nat.le_trans hd_X5_breaker hR.1, Nat.le_trans (by have := hd_X5_breaker; omega) hR.2⟩ hcs, ?_⟩
  refine List.forall_mem_cons.mpr ⟨s_eq (pc := 586) X (off := 311) (by decide +kernel) (by decide), ?_⟩
  refine List.forall_mem_cons.mpr ⟨s_iconst (pc := 589) X (n := 0) (by decide +kernel) (by decide), ?_⟩
  refine List.forall_mem_cons.mpr ⟨s_retZ (pc := 590) (by decide +kernel), ?_⟩
  refine List.forall_mem_cons.mpr ⟨s_aload_n (pc := 591) X (i := 1) (by decide +kernel) rfl, ?_⟩
  refine List.forall_mem_cons.mpr ⟨s_aload_n (pc := 592) X (i := 0) (by decide +kernel) rfl, ?_⟩
  refine List.forall_mem_cons.mpr ⟨s_iload_n (pc := 593) X (i := 3) (by decide +kernel) rfl, ?_⟩
  refine List.forall_mem_cons.mpr ⟨s_iconst (pc := 594) X (n := 1) (by decide +kernel) (by decide), ?_⟩
  refine List.forall_mem_cons.mpr ⟨s_iadd (pc := 595) X (by decide +kernel), ?_⟩
  refine List.forall_mem_cons.mpr ⟨s_iald (pc := 596) X (by decide +kernel), ?_⟩
  refine List.forall_mem_cons.mpr ⟨s_aload_n (pc := 597) X (i := 0) (by decide +kernel) rfl, ?_⟩
  refine List.forall_mem_cons.mpr ⟨s_iload_n (pc := 598) X (i := 3) (by decide +kernel) rfl, ?_⟩
  refine List.forall_mem_cons.mpr ⟨s_iconst (pc := 599) X (n := 2) (by decide +kernel) (by decide), ?_⟩
  refine List.forall_mem_cons.mpr ⟨s_iadd (pc := 600) X (by decide +kernel), ?_⟩
  refine List.forall_mem_cons.mpr ⟨s_iald (pc := 601) X (by decide +kernel), ?_⟩
  refine List.forall_mem_cons.mpr ⟨s_callV (pc := 602) X (idx := 73) (by decide +kernel) h_X4_laws rfl lk_RL_73 ls_X4_laws lz_X4_laws li_RX4 lc_X4_laws hv_X4_laws ⟨Nat.le_trans hd_X4_laws hR.1, Nat.le_trans (by have := hd_X4_laws; omega) hR.2⟩ hcs, ?_⟩
  refine List.forall_mem_cons.mpr ⟨s_aload_n (pc := 605) X (i := 2) (by decide +kernel) rfl, ?_⟩
  refine List.forall_mem_cons.mpr ⟨s_aload_n (pc := 606) X (i := 0) (by decide +kernel) rfl, ?_⟩
  refine List.forall_mem_cons.mpr ⟨s_iload_n (pc := 607) X (i := 3) (by decide +kernel) rfl, ?_⟩
  refine List.forall_mem_cons.mpr ⟨s_iconst (pc := 608) X (n := 1) (by decide +kernel) (by decide), ?_⟩
  refine List.forall_mem_cons.mpr ⟨s_iadd (pc := 609) X (by decide +kernel), ?_⟩
  refine List.forall_mem_cons.mpr ⟨s_iald (pc := 610) X (by decide +kernel), ?_⟩
  refine List.forall_mem_cons.mpr ⟨s_aload_n (pc := 611) X (i := 0) (by decide +kernel) rfl, ?_⟩
  refine List.forall_mem_cons.mpr ⟨s_iload_n (pc := 612) X (i := 3) (by decide +kernel) rfl, ?_⟩
  refine List.forall_mem_cons.mpr ⟨s_iconst (pc := 613) X (n := 2) (by decide +kernel) (by decide), ?_⟩
  refine List.forall_mem_cons.mpr ⟨s_iadd (pc := 614) X (by decide +kernel), ?_⟩
  refine List.forall_mem_cons.mpr ⟨s_iald (pc := 615) X (by decide +kernel), ?_⟩
  refine List.forall_mem_cons.mpr ⟨s_callV (pc := 616) X (idx := 76) (by decide +kernel) h_X5_laws rfl lk_RL_76 ls_X5_laws lz_X5_laws li_RX5 lc_X5_laws hv_X5_laws ⟨Nat.le_trans hd_X5_laws hR.1, Nat.le_trans (by have := hd_X5_laws; omega) hR.2⟩ hcs, ?_⟩
  refine List.forall_mem_cons.mpr ⟨s_eq (pc := 619) X (off := 278) (by decide +kernel) (by decide), ?_⟩
  exact fun _ h => absurd h List.not_mem_nil
def T_L_law_10 (E : Ex) (env : Nat → Mf) : List (Nat × Stq) := [(622, o_ic 623 (0)),
  (623, o_retZ),
  (624, o_al 625 1),
  (625, o_al 626 0),
  (626, o_il 627 3),
  (627, o_ic 628 (1)),
  (628, o_b2 629 (fun x y => x + y)),
  (629, o_ia SH E 630),
  (630, o_al 631 0),
  (631, o_il 632 3),
  (632, o_ic 633 (2)),
  (633, o_b2 634 (fun x y => x + y)),
  (634, o_ia SH E 635),
  (635, o_al 636 0),
  (636, o_il 637 3),
  (637, o_ic 638 (3)),
  (638, o_b2 639 (fun x y => x + y)),
  (639, o_ia SH E 640),
  (640, o_callV SH env 643 42 3 4),
  (643, o_al 644 2),
  (644, o_al 645 0),
  (645, o_il 646 3),
  (646, o_ic 647 (1)),
  (647, o_b2 648 (fun x y => x + y)),
  (648, o_ia SH E 649),
  (649, o_al 650 0),
  (650, o_il 651 3),
  (651, o_ic 652 (2)),
  (652, o_b2 653 (fun x y => x + y)),
  (653, o_ia SH E 654),
  (654, o_al 655 0),
  (655, o_il 656 3),
  (656, o_ic 657 (3)),
  (657, o_b2 658 (fun x y => x + y)),
  (658, o_ia SH E 659),
  (659, o_callV SH env 662 105 3 5),
  (662, o_eq 897 665),
  (665, o_ic 666 (0)),
  (666, o_retZ),
  (667, o_al 668 1)]
set_option maxRecDepth 100000 in
set_option maxHeartbeats 4000000 in
theorem ts_L_law_10 {p : Program} {l : Launch} {e : Env} {R : Room} {s : State} {m : MethodId} {args : Array Value} {below : List Frame} {meth : Method} {c : Code} {cells slots : Nat} {Q : State → Prop} {D : va_G} {C : CI3} {A : Nat → Prop} {ad : Nat → Nat} {E : Ex} {env : Nat → Mf} {d : Nat} (X : Cx p R s m args c cL_law 4 RL D C A ad SH E) (hR : d ≤ R.frames ∧ 100 * d ≤ R.locals) (hcs : cells ≤ R.cells ∧ slots ≤ R.slots) {d_X4_table : Nat} (h_X4_table : CM l SH E yX4_table cX4_table 2 (some .boolean) d_X4_table (env 28)) (hd_X4_table : d_X4_table + 1 ≤ d) {d_X5_table : Nat} (h_X5_table : CM l SH E yX5_table cX5_table 3 (some .boolean) d_X5_table (env 72)) (hd_X5_table : d_X5_table + 1 ≤ d) {d_X4_put : Nat} (h_X4_put : CM l SH E yX4_put cX4_put 8 (some .boolean) d_X4_put (env 29)) (hd_X4_put : d_X4_put + 1 ≤ d) {d_X5_put : Nat} (h_X5_put : CM l SH E yX5_put cX5_put 11 (some .boolean) d_X5_put (env 74)) (hd_X5_put : d_X5_put + 1 ≤ d) {d_X4_change : Nat} (h_X4_change : CM l SH E yX4_change cX4_change 4 (some .boolean) d_X4_change (env 30)) (hd_X4_change : d_X4_change + 1 ≤ d) {d_X5_change : Nat} (h_X5_change : CM l SH E yX5_change cX5_change 4 (some .boolean) d_X5_change (env 75)) (hd_X5_change : d_X5_change + 1 ≤ d) {d_X4_strike : Nat} (h_X4_strike : CM l SH E yX4_strike cX4_strike 2 (some .boolean) d_X4_strike (env 31)) (hd_X4_strike : d_X4_strike + 1 ≤ d) {d_X5_strike : Nat} (h_X5_strike : CM l SH E yX5_strike cX5_strike 2 (some .boolean) d_X5_strike (env 76)) (hd_X5_strike : d_X5_strike + 1 ≤ d) {d_X4_price : Nat} (h_X4_price : CM l SH E yX4_price cX4_price 3 (some .boolean) d_X4_price (env 32)) (hd_X4_price : d_X4_price + 1 ≤ d) {d_X5_price : Nat} (h_X5_price : CM l SH E yX5_price cX5_price 3 (some .boolean) d_X5_price (env 77)) (hd_X5_price : d_X5_price + 1 ≤ d) {d_X4_swap : Nat} (h_X4_swap : CM l SH E yX4_swap cX4_swap 3 (some .boolean) d_X4_swap (env 33)) (hd_X4_swap : d_X4_swap + 1 ≤ d) {d_X5_swap : Nat} (h_X5_swap : CM l SH E yX5_swap cX5_swap 5 (some .boolean) d_X5_swap (env 78)) (hd_X5_swap : d_X5_swap + 1 ≤ d) {d_X4_at : Nat} (h_X4_at : CM l SH E yX4_at cX4_at 3 (some .int) d_X4_at (env 34)) (hd_X4_at : d_X4_at + 1 ≤ d) {d_X5_at : Nat} (h_X5_at : CM l SH E yX5_at cX5_at 3 (some .int) d_X5_at (env 79)) (hd_X5_at : d_X5_at + 1 ≤ d) {d_X4_row : Nat} (h_X4_row : CM l SH E yX4_row cX4_row 3 (some .int) d_X4_row (env 35)) (hd_X4_row : d_X4_row + 1 ≤ d) {d_X5_row : Nat} (h_X5_row : CM l SH E yX5_row cX5_row 3 (some .int) d_X5_row (env 80)) (hd_X5_row : d_X5_row + 1 ≤ d) {d_X4_between : Nat} (h_X4_between : CM l SH E yX4_between cX4_between 3 (some .int) d_X4_between (env 36)) (hd_X4_between : d_X4_between + 1 ≤ d) {d_X5_between : Nat} (h_X5_between : CM l SH E yX5_between cX5_between 3 (some .int) d_X5_between (env 85)) (hd_X5_between : d_X5_between + 1 ≤ d) {d_X4_pairs : Nat} (h_X4_pairs : CM l SH E yX4_pairs cX4_pairs 2 (some .int) d_X4_pairs (env 37)) (hd_X4_pairs : d_X4_pairs + 1 ≤ d) {d_X5_pairs : Nat} (h_X5_pairs : CM l SH E yX5_pairs cX5_pairs 3 (some .int) d_X5_pairs (env 88)) (hd_X5_pairs : d_X5_pairs + 1 ≤ d) {d_X4_kinds : Nat} (h_X4_kinds : CM l SH E yX4_kinds cX4_kinds 1 (some .int) d_X4_kinds (env 38)) (hd_X4_kinds : d_X4_kinds + 1 ≤ d) {d_X5_kinds : Nat} (h_X5_kinds : CM l SH E yX5_kinds cX5_kinds 3 (some .int) d_X5_kinds (env 89)) (hd_X5_kinds : d_X5_kinds + 1 ≤ d) {d_X4_broken : Nat} (h_X4_broken : CM l SH E yX4_broken cX4_broken 2 (some .int) d_X4_broken (env 39)) (hd_X4_broken : d_X4_broken + 1 ≤ d) {d_X5_broken : Nat} (h_X5_broken : CM l SH E yX5_broken cX5_broken 2 (some .int) d_X5_broken (env 97)) (hd_X5_broken : d_X5_broken + 1 ≤ d) {d_X4_breaker : Nat} (h_X4_breaker : CM l SH E yX4_breaker cX4_breaker 7 (some .int) d_X4_breaker (env 40)) (hd_X4_breaker : d_X4_breaker + 1 ≤ d) {d_X5_breaker : Nat} (h_X5_breaker : CM l SH E yX5_breaker cX5_breaker 7 (some .int) d_X5_breaker (env 98)) (hd_X5_breaker : d_X5_breaker + 1 ≤ d) {d_X4_laws : Nat} (h_X4_laws : CM l SH E yX4_laws cX4_laws 5 (some .int) d_X4_laws (env 41)) (hd_X4_laws : d_X4_laws + 1 ≤ d) {d_X5_laws : Nat} (h_X5_laws : CM l SH E yX5_laws cX5_laws 3 (some .int) d_X5_laws (env 104)) (hd_X5_laws : d_X5_laws + 1 ≤ d) {d_X4_law : Nat} (h_X4_law : CM l SH E yX4_law cX4_law 6 (some .int) d_X4_law (env 42)) (hd_X4_law : d_X4_law + 1 ≤ d) {d_X5_law : Nat} (h_X5_law : CM l SH E yX5_law cX5_law 4 (some .int) d_X5_law (env 105)) (hd_X5_law : d_X5_law + 1 ≤ d) {d_X4_sort : Nat} (h_X4_sort : CM l SH E yX4_sort cX4_sort 6 (some .int) d_X4_sort (env 43)) (hd_X4_sort : d_X4_sort + 1 ≤ d) {d_X5_sort : Nat} (h_X5_sort : CM l SH E yX5_sort cX5_sort 7 (some .int) d_X5_sort (env 106)) (hd_X5_sort : d_X5_sort + 1 ≤ d) {d_X4_least : Nat} (h_X4_least : CM l SH E yX4_least cX4_least 2 (some .int) d_X4_least (env 44)) (hd_X4_least : d_X4_least + 1 ≤ d) {d_X5_least : Nat} (h_X5_least : CM l SH E yX5_least cX5_least 2 (some .int) d_X5_least (env 93)) (hd_X5_least : d_X5_least + 1 ≤ d) {d_X4_said : Nat} (h_X4_said : CM l SH E yX4_said cX4_said 3 (some .int) d_X4_said (env 45)) (hd_X4_said : d_X4_said + 1 ≤ d) {d_X5_said : Nat} (h_X5_said : CM l SH E yX5_said cX5_said 3 (some .int) d_X5_said (env 101)) (hd_X5_said : d_X5_said + 1 ≤ d) {d_X4_settles : Nat} (h_X4_settles : CM l SH E yX4_settles cX4_settles 4 (some .int) d_X4_settles (env 46)) (hd_X4_settles : d_X4_settles + 1 ≤ d) {d_X5_settles : Nat} (h_X5_settles : CM l SH E yX5_settles cX5_settles 6 (some .int) d_X5_settles (env 109)) (hd_X5_settles : d_X5_settles + 1 ≤ d) {d_X4_keys : Nat} (h_X4_keys : CM l SH E yX4_keys cX4_keys 3 (some .int) d_X4_keys (env 47)) (hd_X4_keys : d_X4_keys + 1 ≤ d) {d_X5_keys : Nat} (h_X5_keys : CM l SH E yX5_keys cX5_keys 3 (some .int) d_X5_keys (env 112)) (hd_X5_keys : d_X5_keys + 1 ≤ d) {d_X4_key : Nat} (h_X4_key : CM l SH E yX4_key cX4_key 4 (some .int) d_X4_key (env 48)) (hd_X4_key : d_X4_key + 1 ≤ d) {d_X5_key : Nat} (h_X5_key : CM l SH E yX5_key cX5_key 4 (some .int) d_X5_key (env 113)) (hd_X5_key : d_X5_key + 1 ≤ d) {d_X4_tell : Nat} (h_X4_tell : CM l SH E yX4_tell cX4_tell 3 (some .boolean) d_X4_tell (env 49)) (hd_X4_tell : d_X4_tell + 1 ≤ d) {d_X5_tell : Nat} (h_X5_tell : CM l SH E yX5_tell cX5_tell 3 (some .boolean) d_X5_tell (env 114)) (hd_X5_tell : d_X5_tell + 1 ≤ d) {d_X4_told : Nat} (h_X4_told : CM l SH E yX4_told cX4_told 2 (some .int) d_X4_told (env 50)) (hd_X4_told : d_X4_told + 1 ≤ d) {d_X5_told : Nat} (h_X5_told : CM l SH E yX5_told cX5_told 2 (some .int) d_X5_told (env 115)) (hd_X5_told : d_X5_told + 1 ≤ d) {d_X4_mend : Nat} (h_X4_mend : CM l SH E yX4_mend cX4_mend 2 (some .int) d_X4_mend (env 51)) (hd_X4_mend : d_X4_mend + 1 ≤ d) {d_X5_mend : Nat} (h_X5_mend : CM l SH E yX5_mend cX5_mend 10 (some .int) d_X5_mend (env 117)) (hd_X5_mend : d_X5_mend + 1 ≤ d) {d_X4_undo : Nat} (h_X4_undo : CM l SH E yX4_undo cX4_undo 1 (some .boolean) d_X4_undo (env 52)) (hd_X4_undo : d_X4_undo + 1 ≤ d) {d_X5_undo : Nat} (h_X5_undo : CM l SH E yX5_undo cX5_undo 2 (some .boolean) d_X5_undo (env 71)) (hd_X5_undo : d_X5_undo + 1 ≤ d) : ∀ q ∈ T_L_law_10 E env, SS p l e R s m args below meth c cells slots Q D C A ad SH 4 cL_law (some .boolean) q.1 q.2 := by
  unfold T_L_law_10
  refine List.forall_mem_cons.mpr ⟨s_iconst (pc := 622) X (n := 0) (by decide +kernel) (by decide), ?_⟩
  refine List.forall_mem_cons.mpr ⟨s_retZ (pc := 623) (by decide +kernel), ?_⟩
  refine List.forall_mem_cons.mpr ⟨s_aload_n (pc := 624) X (i := 1) (by decide +kernel) rfl, ?_⟩
  refine List.forall_mem_cons.mpr ⟨s_aload_n (pc := 625) X (i := 0) (by decide +kernel) rfl, ?_⟩
  refine List.forall_mem_cons.mpr ⟨s_iload_n (pc := 626) X (i := 3) (by decide +kernel) rfl, ?_⟩
  refine List.forall_mem_cons.mpr ⟨s_iconst (pc := 627) X (n := 1) (by decide +kernel) (by decide), ?_⟩
  refine List.forall_mem_cons.mpr ⟨s_iadd (pc := 628) X (by decide +kernel), ?_⟩
  refine List.forall_mem_cons.mpr ⟨s_iald (pc := 629) X (by decide +kernel), ?_⟩
  refine List.forall_mem_cons.mpr ⟨s_aload_n (pc := 630) X (i := 0) (by decide +kernel) rfl, ?_⟩
  refine List.forall_mem_cons.mpr ⟨s_iload_n (pc := 631) X (i := 3) (by decide +kernel) rfl, ?_⟩
  refine List.forall_mem_cons.mpr ⟨s_iconst (pc := 632) X (n := 2) (by decide +kernel) (by decide), ?_⟩
  refine List.forall_mem_cons.mpr ⟨s_iadd (pc := 633) X (by decide +kernel), ?_⟩
  refine List.forall_mem_cons.mpr ⟨s_iald (pc := 634) X (by decide +kernel), ?_⟩
  refine List.forall_mem_cons.mpr ⟨s_aload_n (pc := 635) X (i := 0) (by decide +kernel) rfl, ?_⟩
  refine List.forall_mem_cons.mpr ⟨s_iload_n (pc := 636) X (i := 3) (by decide +kernel) rfl, ?_⟩
  refine List.forall_mem_cons.mpr ⟨s_iconst (pc := 637) X (n := 3) (by decide +kernel) (by decide), ?_⟩
  refine List.forall_mem_cons.mpr ⟨s_iadd (pc := 638) X (by decide +kernel), ?_⟩
  refine List.forall_mem_cons.mpr ⟨s_iald (pc := 639) X (by decide +kernel), ?_⟩
  refine List.forall_mem_cons.mpr ⟨s_callV (pc := 640) X (idx := 77) (by decide +kernel) h_X4_law rfl lk_RL_77 ls_X4_law lz_X4_law li_RX4 lc_X4_law hv_X4_law ⟨Nat.le_trans hd_X4_law hR.1, Nat.le_trans (by have := hd_X4_law; omega) hR.2⟩ hcs, ?_⟩
  refine List.forall_mem_cons.mpr ⟨s_aload_n (pc := 643) X (i := 2) (by decide +kernel) rfl, ?_⟩
  refine List.forall_mem_cons.mpr ⟨s_aload_n (pc := 644) X (i := 0) (by decide +kernel) rfl, ?_⟩
  refine List.forall_mem_cons.mpr ⟨s_iload_n (pc := 645) X (i := 3) (by decide +kernel) rfl, ?_⟩
  refine List.forall_mem_cons.mpr ⟨s_iconst (pc := 646) X (n := 1) (by decide +kernel) (by decide), ?_⟩
  refine List.forall_mem_cons.mpr ⟨s_iadd (pc := 647) X (by decide +kernel), ?_⟩
  refine List.forall_mem_cons.mpr ⟨s_iald (pc := 648) X (by decide +kernel), ?_⟩
  refine List.forall_mem_cons.mpr ⟨s_aload_n (pc := 649) X (i := 0) (by decide +kernel) rfl, ?_⟩
  refine List.forall_mem_cons.mpr ⟨s_iload_n (pc := 650) X (i := 3) (by decide +kernel) rfl, ?_⟩
  refine List.forall_mem_cons.mpr ⟨s_iconst (pc := 651) X (n := 2) (by decide +kernel) (by decide), ?_⟩
  refine List.forall_mem_cons.mpr ⟨s_iadd (pc := 652) X (by decide +kernel), ?_⟩
  refine List.forall_mem_cons.mpr ⟨s_iald (pc := 653) X (by decide +kernel), ?_⟩
  refine List.forall_mem_cons.mpr ⟨s_aload_n (pc := 654) X (i := 0) (by decide +kernel) rfl, ?_⟩
  refine List.forall_mem_cons.mpr ⟨s_iload_n (pc := 655) X (i := 3) (by decide +kernel) rfl, ?_⟩
  refine List.forall_mem_cons.mpr ⟨s_iconst (pc := 656) X (n := 3) (by decide +kernel) (by decide), ?_⟩
  refine List.forall_mem_cons.mpr ⟨s_iadd (pc := 657) X (by decide +kernel), ?_⟩
  refine List.forall_mem_cons.mpr ⟨s_iald (pc := 658) X (by decide +kernel), ?_⟩
  refine List.forall_mem_cons.mpr ⟨s_callV (pc := 659) X (idx := 80) (by decide +kernel) h_X5_law rfl lk_RL_80 ls_X5_law lz_X5_law li_RX5 lc_X5_law hv_X5_law ⟨Nat.le_trans hd_X5_law hR.1, Nat.le_trans (by have := hd_X5_law; omega) hR.2⟩ hcs, ?_⟩
  refine List.forall_mem_cons.mpr ⟨s_eq (pc := 662) X (off := 235) (by decide +kernel) (by decide), ?_⟩
  refine List.forall_mem_cons.mpr ⟨s_iconst (pc := 665) X (n := 0) (by decide +kernel) (by decide), ?_⟩
  refine List.forall_mem_cons.mpr ⟨s_retZ (pc := 666) (by decide +kernel), ?_⟩
  refine List.forall_mem_cons.mpr ⟨s_aload_n (pc := 667) X (i := 1) (by decide +kernel) rfl, ?_⟩
  exact fun _ h => absurd h List.not_mem_nil
def T_L_law_11 (E : Ex) (env : Nat → Mf) : List (Nat × Stq) := [(668, o_al 669 0),
  (669, o_il 670 3),
  (670, o_ic 671 (1)),
  (671, o_b2 672 (fun x y => x + y)),
  (672, o_ia SH E 673),
  (673, o_callV SH env 676 43 1 4),
  (676, o_al 677 2),
  (677, o_al 678 0),
  (678, o_il 679 3),
  (679, o_ic 680 (1)),
  (680, o_b2 681 (fun x y => x + y)),
  (681, o_ia SH E 682),
  (682, o_callV SH env 685 106 1 5),
  (685, o_eq 897 688),
  (688, o_ic 689 (0)),
  (689, o_retZ),
  (690, o_al 691 1),
  (691, o_al 692 0),
  (692, o_il 693 3),
  (693, o_ic 694 (1)),
  (694, o_b2 695 (fun x y => x + y)),
  (695, o_ia SH E 696),
  (696, o_callV SH env 699 44 1 4),
  (699, o_al 700 2),
  (700, o_al 701 0),
  (701, o_il 702 3),
  (702, o_ic 703 (1)),
  (703, o_b2 704 (fun x y => x + y)),
  (704, o_ia SH E 705),
  (705, o_callV SH env 708 93 1 5),
  (708, o_eq 897 711),
  (711, o_ic 712 (0)),
  (712, o_retZ),
  (713, o_al 714 1),
  (714, o_al 715 0),
  (715, o_il 716 3),
  (716, o_ic 717 (1)),
  (717, o_b2 718 (fun x y => x + y)),
  (718, o_ia SH E 719),
  (719, o_al 720 0)]
set_option maxRecDepth 100000 in
set_option maxHeartbeats 4000000 in
theorem ts_L_law_11 {p : Program} {l : Launch} {e : Env} {R : Room} {s : State} {m : MethodId} {args : Array Value} {below : List Frame} {meth : Method} {c : Code} {cells slots : Nat} {Q : State → Prop} {D : va_G} {C : CI3} {A : Nat → Prop} {ad : Nat → Nat} {E : Ex} {env : Nat → Mf} {d : Nat} (X : Cx p R s m args c cL_law 4 RL D C A ad SH E) (hR : d ≤ R.frames ∧ 100 * d ≤ R.locals) (hcs : cells ≤ R.cells ∧ slots ≤ R.slots) {d_X4_table : Nat} (h_X4_table : CM l SH E yX4_table cX4_table 2 (some .boolean) d_X4_table (env 28)) (hd_X4_table : d_X4_table + 1 ≤ d) {d_X5_table : Nat} (h_X5_table : CM l SH E yX5_table cX5_table 3 (some .boolean) d_X5_table (env 72)) (hd_X5_table : d_X5_table + 1 ≤ d) {d_X4_put : Nat} (h_X4_put : CM l SH E yX4_put cX4_put 8 (some .boolean) d_X4_put (env 29)) (hd_X4_put : d_X4_put + 1 ≤ d) {d_X5_put : Nat} (h_X5_put : CM l SH E yX5_put cX5_put 11 (some .boolean) d_X5_put (env 74)) (hd_X5_put : d_X5_put + 1 ≤ d) {d_X4_change : Nat} (h_X4_change : CM l SH E yX4_change cX4_change 4 (some .boolean) d_X4_change (env 30)) (hd_X4_change : d_X4_change + 1 ≤ d) {d_X5_change : Nat} (h_X5_change : CM l SH E yX5_change cX5_change 4 (some .boolean) d_X5_change (env 75)) (hd_X5_change : d_X5_change + 1 ≤ d) {d_X4_strike : Nat} (h_X4_strike : CM l SH E yX4_strike cX4_strike 2 (some .boolean) d_X4_strike (env 31)) (hd_X4_strike : d_X4_strike + 1 ≤ d) {d_X5_strike : Nat} (h_X5_strike : CM l SH E yX5_strike cX5_strike 2 (some .boolean) d_X5_strike (env 76)) (hd_X5_strike : d_X5_strike + 1 ≤ d) {d_X4_price : Nat} (h_X4_price : CM l SH E yX4_price cX4_price 3 (some .boolean) d_X4_price (env 32)) (hd_X4_price : d_X4_price + 1 ≤ d) {d_X5_price : Nat} (h_X5_price : CM l SH E yX5_price cX5_price 3 (some .boolean) d_X5_price (env 77)) (hd_X5_price : d_X5_price + 1 ≤ d) {d_X4_swap : Nat} (h_X4_swap : CM l SH E yX4_swap cX4_swap 3 (some .boolean) d_X4_swap (env 33)) (hd_X4_swap : d_X4_swap + 1 ≤ d) {d_X5_swap : Nat} (h_X5_swap : CM l SH E yX5_swap cX5_swap 5 (some .boolean) d_X5_swap (env 78)) (hd_X5_swap : d_X5_swap + 1 ≤ d) {d_X4_at : Nat} (h_X4_at : CM l SH E yX4_at cX4_at 3 (some .int) d_X4_at (env 34)) (hd_X4_at : d_X4_at + 1 ≤ d) {d_X5_at : Nat} (h_X5_at : CM l SH E yX5_at cX5_at 3 (some .int) d_X5_at (env 79)) (hd_X5_at : d_X5_at + 1 ≤ d) {d_X4_row : Nat} (h_X4_row : CM l SH E yX4_row cX4_row 3 (some .int) d_X4_row (env 35)) (hd_X4_row : d_X4_row + 1 ≤ d) {d_X5_row : Nat} (h_X5_row : CM l SH E yX5_row cX5_row 3 (some .int) d_X5_row (env 80)) (hd_X5_row : d_X5_row + 1 ≤ d) {d_X4_between : Nat} (h_X4_between : CM l SH E yX4_between cX4_between 3 (some .int) d_X4_between (env 36)) (hd_X4_between : d_X4_between + 1 ≤ d) {d_X5_between : Nat} (h_X5_between : CM l SH E yX5_between cX5_between 3 (some .int) d_X5_between (env 85)) (hd_X5_between : d_X5_between + 1 ≤ d) {d_X4_pairs : Nat} (h_X4_pairs : CM l SH E yX4_pairs cX4_pairs 2 (some .int) d_X4_pairs (env 37)) (hd_X4_pairs : d_X4_pairs + 1 ≤ d) {d_X5_pairs : Nat} (h_X5_pairs : CM l SH E yX5_pairs cX5_pairs 3 (some .int) d_X5_pairs (env 88)) (hd_X5_pairs : d_X5_pairs + 1 ≤ d) {d_X4_kinds : Nat} (h_X4_kinds : CM l SH E yX4_kinds cX4_kinds 1 (some .int) d_X4_kinds (env 38)) (hd_X4_kinds : d_X4_kinds + 1 ≤ d) {d_X5_kinds : Nat} (h_X5_kinds : CM l SH E yX5_kinds cX5_kinds 3 (some .int) d_X5_kinds (env 89)) (hd_X5_kinds : d_X5_kinds + 1 ≤ d) {d_X4_broken : Nat} (h_X4_broken : CM l SH E yX4_broken cX4_broken 2 (some .int) d_X4_broken (env 39)) (hd_X4_broken : d_X4_broken + 1 ≤ d) {d_X5_broken : Nat} (h_X5_broken : CM l SH E yX5_broken cX5_broken 2 (some .int) d_X5_broken (env 97)) (hd_X5_broken : d_X5_broken + 1 ≤ d) {d_X4_breaker : Nat} (h_X4_breaker : CM l SH E yX4_breaker cX4_breaker 7 (some .int) d_X4_breaker (env 40)) (hd_X4_breaker : d_X4_breaker + 1 ≤ d) {d_X5_breaker : Nat} (h_X5_breaker : CM l SH E yX5_breaker cX5_breaker 7 (some .int) d_X5_breaker (env 98)) (hd_X5_breaker : d_X5_breaker + 1 ≤ d) {d_X4_laws : Nat} (h_X4_laws : CM l SH E yX4_laws cX4_laws 5 (some .int) d_X4_laws (env 41)) (hd_X4_laws : d_X4_laws + 1 ≤ d) {d_X5_laws : Nat} (h_X5_laws : CM l SH E yX5_laws cX5_laws 3 (some .int) d_X5_laws (env 104)) (hd_X5_laws : d_X5_laws + 1 ≤ d) {d_X4_law : Nat} (h_X4_law : CM l SH E yX4_law cX4_law 6 (some .int) d_X4_law (env 42)) (hd_X4_law : d_X4_law + 1 ≤ d) {d_X5_law : Nat} (h_X5_law : CM l SH E yX5_law cX5_law 4 (some .int) d_X5_law (env 105)) (hd_X5_law : d_X5_law + 1 ≤ d) {d_X4_sort : Nat} (h_X4_sort : CM l SH E yX4_sort cX4_sort 6 (some .int) d_X4_sort (env 43)) (hd_X4_sort : d_X4_sort + 1 ≤ d) {d_X5_sort : Nat} (h_X5_sort : CM l SH E yX5_sort cX5_sort 7 (some .int) d_X5_sort (env 106)) (hd_X5_sort : d_X5_sort + 1 ≤ d) {d_X4_least : Nat} (h_X4_least : CM l SH E yX4_least cX4_least 2 (some .int) d_X4_least (env 44)) (hd_X4_least : d_X4_least + 1 ≤ d) {d_X5_least : Nat} (h_X5_least : CM l SH E yX5_least cX5_least 2 (some .int) d_X5_least (env 93)) (hd_X5_least : d_X5_least + 1 ≤ d) {d_X4_said : Nat} (h_X4_said : CM l SH E yX4_said cX4_said 3 (some .int) d_X4_said (env 45)) (hd_X4_said : d_X4_said + 1 ≤ d) {d_X5_said : Nat} (h_X5_said : CM l SH E yX5_said cX5_said 3 (some .int) d_X5_said (env 101)) (hd_X5_said : d_X5_said + 1 ≤ d) {d_X4_settles : Nat} (h_X4_settles : CM l SH E yX4_settles cX4_settles 4 (some .int) d_X4_settles (env 46)) (hd_X4_settles : d_X4_settles + 1 ≤ d) {d_X5_settles : Nat} (h_X5_settles : CM l SH E yX5_settles cX5_settles 6 (some .int) d_X5_settles (env 109)) (hd_X5_settles : d_X5_settles + 1 ≤ d) {d_X4_keys : Nat} (h_X4_keys : CM l SH E yX4_keys cX4_keys 3 (some .int) d_X4_keys (env 47)) (hd_X4_keys : d_X4_keys + 1 ≤ d) {d_X5_keys : Nat} (h_X5_keys : CM l SH E yX5_keys cX5_keys 3 (some .int) d_X5_keys (env 112)) (hd_X5_keys : d_X5_keys + 1 ≤ d) {d_X4_key : Nat} (h_X4_key : CM l SH E yX4_key cX4_key 4 (some .int) d_X4_key (env 48)) (hd_X4_key : d_X4_key + 1 ≤ d) {d_X5_key : Nat} (h_X5_key : CM l SH E yX5_key cX5_key 4 (some .int) d_X5_key (env 113)) (hd_X5_key : d_X5_key + 1 ≤ d) {d_X4_tell : Nat} (h_X4_tell : CM l SH E yX4_tell cX4_tell 3 (some .boolean) d_X4_tell (env 49)) (hd_X4_tell : d_X4_tell + 1 ≤ d) {d_X5_tell : Nat} (h_X5_tell : CM l SH E yX5_tell cX5_tell 3 (some .boolean) d_X5_tell (env 114)) (hd_X5_tell : d_X5_tell + 1 ≤ d) {d_X4_told : Nat} (h_X4_told : CM l SH E yX4_told cX4_told 2 (some .int) d_X4_told (env 50)) (hd_X4_told : d_X4_told + 1 ≤ d) {d_X5_told : Nat} (h_X5_told : CM l SH E yX5_told cX5_told 2 (some .int) d_X5_told (env 115)) (hd_X5_told : d_X5_told + 1 ≤ d) {d_X4_mend : Nat} (h_X4_mend : CM l SH E yX4_mend cX4_mend 2 (some .int) d_X4_mend (env 51)) (hd_X4_mend : d_X4_mend + 1 ≤ d) {d_X5_mend : Nat} (h_X5_mend : CM l SH E yX5_mend cX5_mend 10 (some .int) d_X5_mend (env 117)) (hd_X5_mend : d_X5_mend + 1 ≤ d) {d_X4_undo : Nat} (h_X4_undo : CM l SH E yX4_undo cX4_undo 1 (some .boolean) d_X4_undo (env 52)) (hd_X4_undo : d_X4_undo + 1 ≤ d) {d_X5_undo : Nat} (h_X5_undo : CM l SH E yX5_undo cX5_undo 2 (some .boolean) d_X5_undo (env 71)) (hd_X5_undo : d_X5_undo + 1 ≤ d) : ∀ q ∈ T_L_law_11 E env, SS p l e R s m args below meth c cells slots Q D C A ad SH 4 cL_law (some .boolean) q.1 q.2 := by
  unfold T_L_law_11
  refine List.forall_mem_cons.mpr ⟨s_aload_n (pc := 668) X (i := 0) (by decide +kernel) rfl, ?_⟩
  refine List.forall_mem_cons.mpr ⟨s_iload_n (pc := 669) X (i := 3) (by decide +kernel) rfl, ?_⟩
  refine List.forall_mem_cons.mpr ⟨s_iconst (pc := 670) X (n := 1) (by decide +kernel) (by decide), ?_⟩
  refine List.forall_mem_cons.mpr ⟨s_iadd (pc := 671) X (by decide +kernel), ?_⟩
  refine List.forall_mem_cons.mpr ⟨s_iald (pc := 672) X (by decide +kernel), ?_⟩
  refine List.forall_mem_cons.mpr ⟨s_callV (pc := 673) X (idx := 81) (by decide +kernel) h_X4_sort rfl lk_RL_81 ls_X4_sort lz_X4_sort li_RX4 lc_X4_sort hv_X4_sort ⟨Nat.le_trans hd_X4_sort hR.1, Nat.le_trans (by have := hd_X4_sort; omega) hR.2⟩ hcs, ?_⟩
  refine List.forall_mem_cons.mpr ⟨s_aload_n (pc := 676) X (i := 2) (by decide +kernel) rfl, ?_⟩
  refine List.forall_mem_cons.mpr ⟨s_aload_n (pc := 677) X (i := 0) (by decide +kernel) rfl, ?_⟩
  refine List.forall_mem_cons.mpr ⟨s_iload_n (pc := 678) X (i := 3) (by decide +kernel) rfl, ?_⟩
  refine List.forall_mem_cons.mpr ⟨s_iconst (pc := 679) X (n := 1) (by decide +kernel) (by decide), ?_⟩
  refine List.forall_mem_cons.mpr ⟨s_iadd (pc := 680) X (by decide +kernel), ?_⟩
  refine List.forall_mem_cons.mpr ⟨s_iald (pc := 681) X (by decide +kernel), ?_⟩
  refine List.forall_mem_cons.mpr ⟨s_callV (pc := 682) X (idx := 84) (by decide +kernel) h_X5_sort rfl lk_RL_84 ls_X5_sort lz_X5_sort li_RX5 lc_X5_sort hv_X5_sort ⟨Nat.le_trans hd_X5_sort hR.1, Nat.le_trans (by have := hd_X5_sort; omega) hR.2⟩ hcs, ?_⟩
  refine List.forall_mem_cons.mpr ⟨s_eq (pc := 685) X (off := 212) (by decide +kernel) (by decide), ?_⟩
  refine List.forall_mem_cons.mpr ⟨s_iconst (pc := 688) X (n := 0) (by decide +kernel) (by decide), ?_⟩
  refine List.forall_mem_cons.mpr ⟨s_retZ (pc := 689) (by decide +kernel), ?_⟩
  refine List.forall_mem_cons.mpr ⟨s_aload_n (pc := 690) X (i := 1) (by decide +kernel) rfl, ?_⟩
  refine List.forall_mem_cons.mpr ⟨s_aload_n (pc := 691) X (i := 0) (by decide +kernel) rfl, ?_⟩
  refine List.forall_mem_cons.mpr ⟨s_iload_n (pc := 692) X (i := 3) (by decide +kernel) rfl, ?_⟩
  refine List.forall_mem_cons.mpr ⟨s_iconst (pc := 693) X (n := 1) (by decide +kernel) (by decide), ?_⟩
  refine List.forall_mem_cons.mpr ⟨s_iadd (pc := 694) X (by decide +kernel), ?_⟩
  refine List.forall_mem_cons.mpr ⟨s_iald (pc := 695) X (by decide +kernel), ?_⟩
  refine List.forall_mem_cons.mpr ⟨s_callV (pc := 696) X (idx := 85) (by decide +kernel) h_X4_least rfl lk_RL_85 ls_X4_least lz_X4_least li_RX4 lc_X4_least hv_X4_least ⟨Nat.le_trans hd_X4_least hR.1, Nat.le_trans (by have := hd_X4_least; omega) hR.2⟩ hcs, ?_⟩
  refine List.forall_mem_cons.mpr ⟨s_aload_n (pc := 699) X (i := 2) (by decide +kernel) rfl, ?_⟩
  refine List.forall_mem_cons.mpr ⟨s_aload_n (pc := 700) X (i := 0) (by decide +kernel) rfl, ?_⟩
  refine List.forall_mem_cons.mpr ⟨s_iload_n (pc := 701) X (i := 3) (by decide +kernel) rfl, ?_⟩
  refine List.forall_mem_cons.mpr ⟨s_iconst (pc := 702) X (n := 1) (by decide +kernel) (by decide), ?_⟩
  refine List.forall_mem_cons.mpr ⟨s_iadd (pc := 703) X (by decide +kernel), ?_⟩
  refine List.forall_mem_cons.mpr ⟨s_iald (pc := 704) X (by decide +kernel), ?_⟩
  refine List.forall_mem_cons.mpr ⟨s_callV (pc := 705) X (idx := 88) (by decide +kernel) h_X5_least rfl lk_RL_88 ls_X5_least lz_X5_least li_RX5 lc_X5_least hv_X5_least ⟨Nat.le_trans hd_X5_least hR.1, Nat.le_trans (by have := hd_X5_least; omega) hR.2⟩ hcs, ?_⟩
  refine List.forall_mem_cons.mpr ⟨s_eq (pc := 708) X (off := 189) (by decide +kernel) (by decide), ?_⟩
  refine List.forall_mem_cons.mpr ⟨s_iconst (pc := 711) X (n := 0) (by decide +kernel) (by decide), ?_⟩
  refine List.forall_mem_cons.mpr ⟨s_retZ (pc := 712) (by decide +kernel), ?_⟩
  refine List.forall_mem_cons.mpr ⟨s_aload_n (pc := 713) X (i := 1) (by decide +kernel) rfl, ?_⟩
  refine List.forall_mem_cons.mpr ⟨s_aload_n (pc := 714) X (i := 0) (by decide +kernel) rfl, ?_⟩
  refine List.forall_mem_cons.mpr ⟨s_iload_n (pc := 715) X (i := 3) (by decide +kernel) rfl, ?_⟩
  refine List.forall_mem_cons.mpr ⟨s_iconst (pc := 716) X (n := 1) (by decide +kernel) (by decide), ?_⟩
  refine List.forall_mem_cons.mpr ⟨s_iadd (pc := 717) X (by decide +kernel), ?_⟩
  refine List.forall_mem_cons.mpr ⟨s_iald (pc := 718) X (by decide +kernel), ?_⟩
  refine List.forall_mem_cons.mpr ⟨s_aload_n (pc := 719) X (i := 0) (by decide +kernel) rfl, ?_⟩
  exact fun _ h => absurd h List.not_mem_nil
def T_L_law_12 (E : Ex) (env : Nat → Mf) : List (Nat × Stq) := [(720, o_il 721 3),
  (721, o_ic 722 (2)),
  (722, o_b2 723 (fun x y => x + y)),
  (723, o_ia SH E 724),
  (724, o_callV SH env 727 45 2 4),
  (727, o_al 728 2),
  (728, o_al 729 0),
  (729, o_il 730 3),
  (730, o_ic 731 (1)),
  (731, o_b2 732 (fun x y => x + y)),
  (732, o_ia SH E 733),
  (733, o_al 734 0),
  (734, o_il 735 3),
  (735, o_ic 736 (2)),
  (736, o_b2 737 (fun x y => x + y)),
  (737, o_ia SH E 738),
  (738, o_callV SH env 741 101 2 5),
  (741, o_eq 897 744),
  (744, o_ic 745 (0)),
  (745, o_retZ),
  (746, o_al 747 1),
  (747, o_al 748 0),
  (748, o_il 749 3),
  (749, o_ic 750 (1)),
  (750, o_b2 751 (fun x y => x + y)),
  (751, o_ia SH E 752),
  (752, o_callV SH env 755 46 1 4),
  (755, o_al 756 2),
  (756, o_al 757 0),
  (757, o_il 758 3),
  (758, o_ic 759 (1)),
  (759, o_b2 760 (fun x y => x + y)),
  (760, o_ia SH E 761),
  (761, o_callV SH env 764 109 1 5),
  (764, o_eq 897 767),
  (767, o_ic 768 (0)),
  (768, o_retZ),
  (769, o_al 770 1),
  (770, o_callV SH env 773 47 0 4),
  (773, o_al 774 2)]
set_option maxRecDepth 100000 in
set_option maxHeartbeats 4000000 in
theorem ts_L_law_12 {p : Program} {l : Launch} {e : Env} {R : Room} {s : State} {m : MethodId} {args : Array Value} {below : List Frame} {meth : Method} {c : Code} {cells slots : Nat} {Q : State → Prop} {D : va_G} {C : CI3} {A : Nat → Prop} {ad : Nat → Nat} {E : Ex} {env : Nat → Mf} {d : Nat} (X : Cx p R s m args c cL_law 4 RL D C A ad SH E) (hR : d ≤ R.frames ∧ 100 * d ≤ R.locals) (hcs : cells ≤ R.cells ∧ slots ≤ R.slots) {d_X4_table : Nat} (h_X4_table : CM l SH E yX4_table cX4_table 2 (some .boolean) d_X4_table (env 28)) (hd_X4_table : d_X4_table + 1 ≤ d) {d_X5_table : Nat} (h_X5_table : CM l SH E yX5_table cX5_table 3 (some .boolean) d_X5_table (env 72)) (hd_X5_table : d_X5_table + 1 ≤ d) {d_X4_put : Nat} (h_X4_put : CM l SH E yX4_put cX4_put 8 (some .boolean) d_X4_put (env 29)) (hd_X4_put : d_X4_put + 1 ≤ d) {d_X5_put : Nat} (h_X5_put : CM l SH E yX5_put cX5_put 11 (some .boolean) d_X5_put (env 74)) (hd_X5_put : d_X5_put + 1 ≤ d) {d_X4_change : Nat} (h_X4_change : CM l SH E yX4_change cX4_change 4 (some .boolean) d_X4_change (env 30)) (hd_X4_change : d_X4_change + 1 ≤ d) {d_X5_change : Nat} (h_X5_change : CM l SH E yX5_change cX5_change 4 (some .boolean) d_X5_change (env 75)) (hd_X5_change : d_X5_change + 1 ≤ d) {d_X4_strike : Nat} (h_X4_strike : CM l SH E yX4_strike cX4_strike 2 (some .boolean) d_X4_strike (env 31)) (hd_X4_strike : d_X4_strike + 1 ≤ d) {d_X5_strike : Nat} (h_X5_strike : CM l SH E yX5_strike cX5_strike 2 (some .boolean) d_X5_strike (env 76)) (hd_X5_strike : d_X5_strike + 1 ≤ d) {d_X4_price : Nat} (h_X4_price : CM l SH E yX4_price cX4_price 3 (some .boolean) d_X4_price (env 32)) (hd_X4_price : d_X4_price + 1 ≤ d) {d_X5_price : Nat} (h_X5_price : CM l SH E yX5_price cX5_price 3 (some .boolean) d_X5_price (env 77)) (hd_X5_price : d_X5_price + 1 ≤ d) {d_X4_swap : Nat} (h_X4_swap : CM l SH E yX4_swap cX4_swap 3 (some .boolean) d_X4_swap (env 33)) (hd_X4_swap : d_X4_swap + 1 ≤ d) {d_X5_swap : Nat} (h_X5_swap : CM l SH E yX5_swap cX5_swap 5 (some .boolean) d_X5_swap (env 78)) (hd_X5_swap : d_X5_swap + 1 ≤ d) {d_X4_at : Nat} (h_X4_at : CM l SH E yX4_at cX4_at 3 (some .int) d_X4_at (env 34)) (hd_X4_at : d_X4_at + 1 ≤ d) {d_X5_at : Nat} (h_X5_at : CM l SH E yX5_at cX5_at 3 (some .int) d_X5_at (env 79)) (hd_X5_at : d_X5_at + 1 ≤ d) {d_X4_row : Nat} (h_X4_row : CM l SH E yX4_row cX4_row 3 (some .int) d_X4_row (env 35)) (hd_X4_row : d_X4_row + 1 ≤ d) {d_X5_row : Nat} (h_X5_row : CM l SH E yX5_row cX5_row 3 (some .int) d_X5_row (env 80)) (hd_X5_row : d_X5_row + 1 ≤ d) {d_X4_between : Nat} (h_X4_between : CM l SH E yX4_between cX4_between 3 (some .int) d_X4_between (env 36)) (hd_X4_between : d_X4_between + 1 ≤ d) {d_X5_between : Nat} (h_X5_between : CM l SH E yX5_between cX5_between 3 (some .int) d_X5_between (env 85)) (hd_X5_between : d_X5_between + 1 ≤ d) {d_X4_pairs : Nat} (h_X4_pairs : CM l SH E yX4_pairs cX4_pairs 2 (some .int) d_X4_pairs (env 37)) (hd_X4_pairs : d_X4_pairs + 1 ≤ d) {d_X5_pairs : Nat} (h_X5_pairs : CM l SH E yX5_pairs cX5_pairs 3 (some .int) d_X5_pairs (env 88)) (hd_X5_pairs : d_X5_pairs + 1 ≤ d) {d_X4_kinds : Nat} (h_X4_kinds : CM l SH E yX4_kinds cX4_kinds 1 (some .int) d_X4_kinds (env 38)) (hd_X4_kinds : d_X4_kinds + 1 ≤ d) {d_X5_kinds : Nat} (h_X5_kinds : CM l SH E yX5_kinds cX5_kinds 3 (some .int) d_X5_kinds (env 89)) (hd_X5_kinds : d_X5_kinds + 1 ≤ d) {d_X4_broken : Nat} (h_X4_broken : CM l SH E yX4_broken cX4_broken 2 (some .int) d_X4_broken (env 39)) (hd_X4_broken : d_X4_broken + 1 ≤ d) {d_X5_broken : Nat} (h_X5_broken : CM l SH E yX5_broken cX5_broken 2 (some .int) d_X5_broken (env 97)) (hd_X5_broken : d_X5_broken + 1 ≤ d) {d_X4_breaker : Nat} (h_X4_breaker : CM l SH E yX4_breaker cX4_breaker 7 (some .int) d_X4_breaker (env 40)) (hd_X4_breaker : d_X4_breaker + 1 ≤ d) {d_X5_breaker : Nat} (h_X5_breaker : CM l SH E yX5_breaker cX5_breaker 7 (some .int) d_X5_breaker (env 98)) (hd_X5_breaker : d_X5_breaker + 1 ≤ d) {d_X4_laws : Nat} (h_X4_laws : CM l SH E yX4_laws cX4_laws 5 (some .int) d_X4_laws (env 41)) (hd_X4_laws : d_X4_laws + 1 ≤ d) {d_X5_laws : Nat} (h_X5_laws : CM l SH E yX5_laws cX5_laws 3 (some .int) d_X5_laws (env 104)) (hd_X5_laws : d_X5_laws + 1 ≤ d) {d_X4_law : Nat} (h_X4_law : CM l SH E yX4_law cX4_law 6 (some .int) d_X4_law (env 42)) (hd_X4_law : d_X4_law + 1 ≤ d) {d_X5_law : Nat} (h_X5_law : CM l SH E yX5_law cX5_law 4 (some .int) d_X5_law (env 105)) (hd_X5_law : d_X5_law + 1 ≤ d) {d_X4_sort : Nat} (h_X4_sort : CM l SH E yX4_sort cX4_sort 6 (some .int) d_X4_sort (env 43)) (hd_X4_sort : d_X4_sort + 1 ≤ d) {d_X5_sort : Nat} (h_X5_sort : CM l SH E yX5_sort cX5_sort 7 (some .int) d_X5_sort (env 106)) (hd_X5_sort : d_X5_sort + 1 ≤ d) {d_X4_least : Nat} (h_X4_least : CM l SH E yX4_least cX4_least 2 (some .int) d_X4_least (env 44)) (hd_X4_least : d_X4_least + 1 ≤ d) {d_X5_least : Nat} (h_X5_least : CM l SH E yX5_least cX5_least 2 (some .int) d_X5_least (env 93)) (hd_X5_least : d_X5_least + 1 ≤ d) {d_X4_said : Nat} (h_X4_said : CM l SH E yX4_said cX4_said 3 (some .int) d_X4_said (env 45)) (hd_X4_said : d_X4_said + 1 ≤ d) {d_X5_said : Nat} (h_X5_said : CM l SH E yX5_said cX5_said 3 (some .int) d_X5_said (env 101)) (hd_X5_said : d_X5_said + 1 ≤ d) {d_X4_settles : Nat} (h_X4_settles : CM l SH E yX4_settles cX4_settles 4 (some .int) d_X4_settles (env 46)) (hd_X4_settles : d_X4_settles + 1 ≤ d) {d_X5_settles : Nat} (h_X5_settles : CM l SH E yX5_settles cX5_settles 6 (some .int) d_X5_settles (env 109)) (hd_X5_settles : d_X5_settles + 1 ≤ d) {d_X4_keys : Nat} (h_X4_keys : CM l SH E yX4_keys cX4_keys 3 (some .int) d_X4_keys (env 47)) (hd_X4_keys : d_X4_keys + 1 ≤ d) {d_X5_keys : Nat} (h_X5_keys : CM l SH E yX5_keys cX5_keys 3 (some .int) d_X5_keys (env 112)) (hd_X5_keys : d_X5_keys + 1 ≤ d) {d_X4_key : Nat} (h_X4_key : CM l SH E yX4_key cX4_key 4 (some .int) d_X4_key (env 48)) (hd_X4_key : d_X4_key + 1 ≤ d) {d_X5_key : Nat} (h_X5_key : CM l SH E yX5_key cX5_key 4 (some .int) d_X5_key (env 113)) (hd_X5_key : d_X5_key + 1 ≤ d) {d_X4_tell : Nat} (h_X4_tell : CM l SH E yX4_tell cX4_tell 3 (some .boolean) d_X4_tell (env 49)) (hd_X4_tell : d_X4_tell + 1 ≤ d) {d_X5_tell : Nat} (h_X5_tell : CM l SH E yX5_tell cX5_tell 3 (some .boolean) d_X5_tell (env 114)) (hd_X5_tell : d_X5_tell + 1 ≤ d) {d_X4_told : Nat} (h_X4_told : CM l SH E yX4_told cX4_told 2 (some .int) d_X4_told (env 50)) (hd_X4_told : d_X4_told + 1 ≤ d) {d_X5_told : Nat} (h_X5_told : CM l SH E yX5_told cX5_told 2 (some .int) d_X5_told (env 115)) (hd_X5_told : d_X5_told + 1 ≤ d) {d_X4_mend : Nat} (h_X4_mend : CM l SH E yX4_mend cX4_mend 2 (some .int) d_X4_mend (env 51)) (hd_X4_mend : d_X4_mend + 1 ≤ d) {d_X5_mend : Nat} (h_X5_mend : CM l SH E yX5_mend cX5_mend 10 (some .int) d_X5_mend (env 117)) (hd_X5_mend : d_X5_mend + 1 ≤ d) {d_X4_undo : Nat} (h_X4_undo : CM l SH E yX4_undo cX4_undo 1 (some .boolean) d_X4_undo (env 52)) (hd_X4_undo : d_X4_undo + 1 ≤ d) {d_X5_undo : Nat} (h_X5_undo : CM l SH E yX5_undo cX5_undo 2 (some .boolean) d_X5_undo (env 71)) (hd_X5_undo : d_X5_undo + 1 ≤ d) : ∀ q ∈ T_L_law_12 E env, SS p l e R s m args below meth c cells slots Q D C A ad SH 4 cL_law (some .boolean) q.1 q.2 := by
  unfold T_L_law_12
  refine List.forall_mem_cons.mpr ⟨s_iload_n (pc := 720) X (i := 3) (by decide +kernel) rfl, ?_⟩
  refine List.forall_mem_cons.mpr ⟨s_iconst (pc := 721) X (n := 2) (by decide +kernel) (by decide), ?_⟩
  refine List.forall_mem_cons.mpr ⟨s_iadd (pc := 722) X (by decide +kernel), ?_⟩
  refine List.forall_mem_cons.mpr ⟨s_iald (pc := 723) X (by decide +kernel), ?_⟩
  refine List.forall_mem_cons.mpr ⟨s_callV (pc := 724) X (idx := 89) (by decide +kernel) h_X4_said rfl lk_RL_89 ls_X4_said lz_X4_said li_RX4 lc_X4_said hv_X4_said ⟨Nat.le_trans hd_X4_said hR.1, Nat.le_trans (by have := hd_X4_said; omega) hR.2⟩ hcs, ?_⟩
  refine List.forall_mem_cons.mpr ⟨s_aload_n (pc := 727) X (i := 2) (by decide +kernel) rfl, ?_⟩
  refine List.forall_mem_cons.mpr ⟨s_aload_n (pc := 728) X (i := 0) (by decide +kernel) rfl, ?_⟩
  refine List.forall_mem_cons.mpr ⟨s_iload_n (pc := 729) X (i := 3) (by decide +kernel) rfl, ?_⟩
  refine List.forall_mem_cons.mpr ⟨s_iconst (pc := 730) X (n := 1) (by decide +kernel) (by decide), ?_⟩
  refine List.forall_mem_cons.mpr ⟨s_iadd (pc := 731) X (by decide +kernel), ?_⟩
  refine List.forall_mem_cons.mpr ⟨s_iald (pc := 732) X (by decide +kernel), ?_⟩
  refine List.forall_mem_cons.mpr ⟨s_aload_n (pc := 733) X (i := 0) (by decide +kernel) rfl, ?_⟩
  refine List.forall_mem_cons.mpr ⟨s_iload_n (pc := 734) X (i := 3) (by decide +kernel) rfl, ?_⟩
  refine List.forall_mem_cons.mpr ⟨s_iconst (pc := 735) X (n := 2) (by decide +kernel) (by decide), ?_⟩
  refine List.forall_mem_cons.mpr ⟨s_iadd (pc := 736) X (by decide +kernel), ?_⟩
  refine List.forall_mem_cons.mpr ⟨s_iald (pc := 737) X (by decide +kernel), ?_⟩
  refine List.forall_mem_cons.mpr ⟨s_callV (pc := 738) X (idx := 92) (by decide +kernel) h_X5_said rfl lk_RL_92 ls_X5_said lz_X5_said li_RX5 lc_X5_said hv_X5_said ⟨Nat.le_trans hd_X5_said hR.1, Nat.le_trans (by have := hd_X5_said; omega) hR.2⟩ hcs, ?_⟩
  refine List.forall_mem_cons.mpr ⟨s_eq (pc := 741) X (off := 156) (by decide +kernel) (by decide), ?_⟩
  refine List.forall_mem_cons.mpr ⟨s_iconst (pc := 744) X (n := 0) (by decide +kernel) (by decide), ?_⟩
  refine List.forall_mem_cons.mpr ⟨s_retZ (pc := 745) (by decide +kernel), ?_⟩
  refine List.forall_mem_cons.mpr ⟨s_aload_n (pc := 746) X (i := 1) (by decide +kernel) rfl, ?_⟩
  refine List.forall_mem_cons.mpr ⟨s_aload_n (pc := 747) X (i := 0) (by decide +kernel) rfl, ?_⟩
  refine List.forall_mem_cons.mpr ⟨s_iload_n (pc := 748) X (i := 3) (by decide +kernel) rfl, ?_⟩
  refine List.forall_mem_cons.mpr ⟨s_iconst (pc := 749) X (n := 1) (by decide +kernel) (by decide), ?_⟩
  refine List.forall_mem_cons.mpr ⟨s_iadd (pc := 750) X (by decide +kernel), ?_⟩
  refine List.forall_mem_cons.mpr ⟨s_iald (pc := 751) X (by decide +kernel), ?_⟩
  refine List.forall_mem_cons.mpr ⟨s_callV (pc := 752) X (idx := 93) (by decide +kernel) h_X4_settles rfl lk_RL_93 ls_X4_settles lz_X4_settles li_RX4 lc_X4_settles hv_X4_settles ⟨Nat.le_trans hd_X4_settles hR.1, Nat.le_trans (by have := hd_X4_settles; omega) hR.2⟩ hcs, ?_⟩
  refine List.forall_mem_cons.mpr ⟨s_aload_n (pc := 755) X (i := 2) (by decide +kernel) rfl, ?_⟩
  refine List.forall_mem_cons.mpr ⟨s_aload_n (pc := 756) X (i := 0) (by decide +kernel) rfl, ?_⟩
  refine List.forall_mem_cons.mpr ⟨s_iload_n (pc := 757) X (i := 3) (by decide +kernel) rfl, ?_⟩
  refine List.forall_mem_cons.mpr ⟨s_iconst (pc := 758) X (n := 1) (by decide +kernel) (by decide), ?_⟩
  refine List.forall_mem_cons.mpr ⟨s_iadd (pc := 759) X (by decide +kernel), ?_⟩
  refine List.forall_mem_cons.mpr ⟨s_iald (pc := 760) X (by decide +kernel), ?_⟩
  refine List.forall_mem_cons.mpr ⟨s_callV (pc := 761) X (idx := 96) (by decide +kernel) h_X5_settles rfl lk_RL_96 ls_X5_settles lz_X5_settles li_RX5 lc_X5_settles hv_X5_settles ⟨Nat.le_trans hd_X5_settles hR.1, Nat.le_trans (by have := hd_X5_settles; omega) hR.2⟩ hcs, ?_⟩
  refine List.forall_mem_cons.mpr ⟨s_eq (pc := 764) X (off := 133) (by decide +kernel) (by decide), ?_⟩
  refine List.forall_mem_cons.mpr ⟨s_iconst (pc := 767) X (n := 0) (by decide +kernel) (by decide), ?_⟩
  refine List.forall_mem_cons.mpr ⟨s_retZ (pc := 768) (by decide +kernel), ?_⟩
  refine List.forall_mem_cons.mpr ⟨s_aload_n (pc := 769) X (i := 1) (by decide +kernel) rfl, ?_⟩
  refine List.forall_mem_cons.mpr ⟨s_callV (pc := 770) X (idx := 97) (by decide +kernel) h_X4_keys rfl lk_RL_97 ls_X4_keys lz_X4_keys li_RX4 lc_X4_keys hv_X4_keys ⟨Nat.le_trans hd_X4_keys hR.1, Nat.le_trans (by have := hd_X4_keys; omega) hR.2⟩ hcs, ?_⟩
  refine List.forall_mem_cons.mpr ⟨s_aload_n (pc := 773) X (i := 2) (by decide +kernel) rfl, ?_⟩
  exact fun _ h => absurd h List.not_mem_nil
def T_L_law_13 (E : Ex) (env : Nat → Mf) : List (Nat × Stq) := [(774, o_callV SH env 777 112 0 5),
  (777, o_eq 897 780),
  (780, o_ic 781 (0)),
  (781, o_retZ),
  (782, o_al 783 1),
  (783, o_al 784 0),
  (784, o_il 785 3),
  (785, o_ic 786 (1)),
  (786, o_b2 787 (fun x y => x + y)),
  (787, o_ia SH E 788),
  (788, o_callV SH env 791 48 1 4),
  (791, o_al 792 2),
  (792, o_al 793 0),
  (793, o_il 794 3),
  (794, o_ic 795 (1)),
  (795, o_b2 796 (fun x y => x + y)),
  (796, o_ia SH E 797),
  (797, o_callV SH env 800 113 1 5),
  (800, o_eq 897 803),
  (803, o_ic 804 (0)),
  (804, o_retZ),
  (805, o_al 806 1),
  (806, o_al 807 0),
  (807, o_il 808 3),
  (808, o_ic 809 (1)),
  (809, o_b2 810 (fun x y => x + y)),
  (810, o_ia SH E 811),
  (811, o_al 812 0),
  (812, o_il 813 3),
  (813, o_ic 814 (2)),
  (814, o_b2 815 (fun x y => x + y)),
  (815, o_ia SH E 816),
  (816, o_callV SH env 819 49 2 4),
  (819, o_al 820 2),
  (820, o_al 821 0),
  (821, o_il 822 3),
  (822, o_ic 823 (1)),
  (823, o_b2 824 (fun x y => x + y)),
  (824, o_ia SH E 825),
  (825, o_al 826 0)]
set_option maxRecDepth 100000 in
set_option maxHeartbeats 4000000 in
theorem ts_L_law_13 {p : Program} {l : Launch} {e : Env} {R : Room} {s : State} {m : MethodId} {args : Array Value} {below : List Frame} {meth : Method} {c : Code} {cells slots : Nat} {Q : State → Prop} {D : va_G} {C : CI3} {A : Nat → Prop} {ad : Nat → Nat} {E : Ex} {env : Nat → Mf} {d : Nat} (X : Cx p R s m args c cL_law 4 RL D C A ad SH E) (hR : d ≤ R.frames ∧ 100 * d ≤ R.locals) (hcs : cells ≤ R.cells ∧ slots ≤ R.slots) {d_X4_table : Nat} (h_X4_table : CM l SH E yX4_table cX4_table 2 (some .boolean) d_X4_table (env 28)) (hd_X4_table : d_X4_table + 1 ≤ d) {d_X5_table : Nat} (h_X5_table : CM l SH E yX5_table cX5_table 3 (some .boolean) d_X5_table (env 72)) (hd_X5_table : d_X5_table + 1 ≤ d) {d_X4_put : Nat} (h_X4_put : CM l SH E yX4_put cX4_put 8 (some .boolean) d_X4_put (env 29)) (hd_X4_put : d_X4_put + 1 ≤ d) {d_X5_put : Nat} (h_X5_put : CM l SH E yX5_put cX5_put 11 (some .boolean) d_X5_put (env 74)) (hd_X5_put : d_X5_put + 1 ≤ d) {d_X4_change : Nat} (h_X4_change : CM l SH E yX4_change cX4_change 4 (some .boolean) d_X4_change (env 30)) (hd_X4_change : d_X4_change + 1 ≤ d) {d_X5_change : Nat} (h_X5_change : CM l SH E yX5_change cX5_change 4 (some .boolean) d_X5_change (env 75)) (hd_X5_change : d_X5_change + 1 ≤ d) {d_X4_strike : Nat} (h_X4_strike : CM l SH E yX4_strike cX4_strike 2 (some .boolean) d_X4_strike (env 31)) (hd_X4_strike : d_X4_strike + 1 ≤ d) {d_X5_strike : Nat} (h_X5_strike : CM l SH E yX5_strike cX5_strike 2 (some .boolean) d_X5_strike (env 76)) (hd_X5_strike : d_X5_strike + 1 ≤ d) {d_X4_price : Nat} (h_X4_price : CM l SH E yX4_price cX4_price 3 (some .boolean) d_X4_price (env 32)) (hd_X4_price : d_X4_price + 1 ≤ d) {d_X5_price : Nat} (h_X5_price : CM l SH E yX5_price cX5_price 3 (some .boolean) d_X5_price (env 77)) (hd_X5_price : d_X5_price + 1 ≤ d) {d_X4_swap : Nat} (h_X4_swap : CM l SH E yX4_swap cX4_swap 3 (some .boolean) d_X4_swap (env 33)) (hd_X4_swap : d_X4_swap + 1 ≤ d) {d_X5_swap : Nat} (h_X5_swap : CM l SH E yX5_swap cX5_swap 5 (some .boolean) d_X5_swap (env 78)) (hd_X5_swap : d_X5_swap + 1 ≤ d) {d_X4_at : Nat} (h_X4_at : CM l SH E yX4_at cX4_at 3 (some .int) d_X4_at (env 34)) (hd_X4_at : d_X4_at + 1 ≤ d) {d_X5_at : Nat} (h_X5_at : CM l SH E yX5_at cX5_at 3 (some .int) d_X5_at (env 79)) (hd_X5_at : d_X5_at + 1 ≤ d) {d_X4_row : Nat} (h_X4_row : CM l SH E yX4_row cX4_row 3 (some .int) d_X4_row (env 35)) (hd_X4_row : d_X4_row + 1 ≤ d) {d_X5_row : Nat} (h_X5_row : CM l SH E yX5_row cX5_row 3 (some .int) d_X5_row (env 80)) (hd_X5_row : d_X5_row + 1 ≤ d) {d_X4_between : Nat} (h_X4_between : CM l SH E yX4_between cX4_between 3 (some .int) d_X4_between (env 36)) (hd_X4_between : d_X4_between + 1 ≤ d) {d_X5_between : Nat} (h_X5_between : CM l SH E yX5_between cX5_between 3 (some .int) d_X5_between (env 85)) (hd_X5_between : d_X5_between + 1 ≤ d) {d_X4_pairs : Nat} (h_X4_pairs : CM l SH E yX4_pairs cX4_pairs 2 (some .int) d_X4_pairs (env 37)) (hd_X4_pairs : d_X4_pairs + 1 ≤ d) {d_X5_pairs : Nat} (h_X5_pairs : CM l SH E yX5_pairs cX5_pairs 3 (some .int) d_X5_pairs (env 88)) (hd_X5_pairs : d_X5_pairs + 1 ≤ d) {d_X4_kinds : Nat} (h_X4_kinds : CM l SH E yX4_kinds cX4_kinds 1 (some .int) d_X4_kinds (env 38)) (hd_X4_kinds : d_X4_kinds + 1 ≤ d) {d_X5_kinds : Nat} (h_X5_kinds : CM l SH E yX5_kinds cX5_kinds 3 (some .int) d_X5_kinds (env 89)) (hd_X5_kinds : d_X5_kinds + 1 ≤ d) {d_X4_broken : Nat} (h_X4_broken : CM l SH E yX4_broken cX4_broken 2 (some .int) d_X4_broken (env 39)) (hd_X4_broken : d_X4_broken + 1 ≤ d) {d_X5_broken : Nat} (h_X5_broken : CM l SH E yX5_broken cX5_broken 2 (some .int) d_X5_broken (env 97)) (hd_X5_broken : d_X5_broken + 1 ≤ d) {d_X4_breaker : Nat} (h_X4_breaker : CM l SH E yX4_breaker cX4_breaker 7 (some .int) d_X4_breaker (env 40)) (hd_X4_breaker : d_X4_breaker + 1 ≤ d) {d_X5_breaker : Nat} (h_X5_breaker : CM l SH E yX5_breaker cX5_breaker 7 (some .int) d_X5_breaker (env 98)) (hd_X5_breaker : d_X5_breaker + 1 ≤ d) {d_X4_laws : Nat} (h_X4_laws : CM l SH E yX4_laws cX4_laws 5 (some .int) d_X4_laws (env 41)) (hd_X4_laws : d_X4_laws + 1 ≤ d) {d_X5_laws : Nat} (h_X5_laws : CM l SH E yX5_laws cX5_laws 3 (some .int) d_X5_laws (env 104)) (hd_X5_laws : d_X5_laws + 1 ≤ d) {d_X4_law : Nat} (h_X4_law : CM l SH E yX4_law cX4_law 6 (some .int) d_X4_law (env 42)) (hd_X4_law : d_X4_law + 1 ≤ d) {d_X5_law : Nat} (h_X5_law : CM l SH E yX5_law cX5_law 4 (some .int) d_X5_law (env 105)) (hd_X5_law : d_X5_law + 1 ≤ d) {d_X4_sort : Nat} (h_X4_sort : CM l SH E yX4_sort cX4_sort 6 (some .int) d_X4_sort (env 43)) (hd_X4_sort : d_X4_sort + 1 ≤ d) {d_X5_sort : Nat} (h_X5_sort : CM l SH E yX5_sort cX5_sort 7 (some .int) d_X5_sort (env 106)) (hd_X5_sort : d_X5_sort + 1 ≤ d) {d_X4_least : Nat} (h_X4_least : CM l SH E yX4_least cX4_least 2 (some .int) d_X4_least (env 44)) (hd_X4_least : d_X4_least + 1 ≤ d) {d_X5_least : Nat} (h_X5_least : CM l SH E yX5_least cX5_least 2 (some .int) d_X5_least (env 93)) (hd_X5_least : d_X5_least + 1 ≤ d) {d_X4_said : Nat} (h_X4_said : CM l SH E yX4_said cX4_said 3 (some .int) d_X4_said (env 45)) (hd_X4_said : d_X4_said + 1 ≤ d) {d_X5_said : Nat} (h_X5_said : CM l SH E yX5_said cX5_said 3 (some .int) d_X5_said (env 101)) (hd_X5_said : d_X5_said + 1 ≤ d) {d_X4_settles : Nat} (h_X4_settles : CM l SH E yX4_settles cX4_settles 4 (some .int) d_X4_settles (env 46)) (hd_X4_settles : d_X4_settles + 1 ≤ d) {d_X5_settles : Nat} (h_X5_settles : CM l SH E yX5_settles cX5_settles 6 (some .int) d_X5_settles (env 109)) (hd_X5_settles : d_X5_settles + 1 ≤ d) {d_X4_keys : Nat} (h_X4_keys : CM l SH E yX4_keys cX4_keys 3 (some .int) d_X4_keys (env 47)) (hd_X4_keys : d_X4_keys + 1 ≤ d) {d_X5_keys : Nat} (h_X5_keys : CM l SH E yX5_keys cX5_keys 3 (some .int) d_X5_keys (env 112)) (hd_X5_keys : d_X5_keys + 1 ≤ d) {d_X4_key : Nat} (h_X4_key : CM l SH E yX4_key cX4_key 4 (some .int) d_X4_key (env 48)) (hd_X4_key : d_X4_key + 1 ≤ d) {d_X5_key : Nat} (h_X5_key : CM l SH E yX5_key cX5_key 4 (some .int) d_X5_key (env 113)) (hd_X5_key : d_X5_key + 1 ≤ d) {d_X4_tell : Nat} (h_X4_tell : CM l SH E yX4_tell cX4_tell 3 (some .boolean) d_X4_tell (env 49)) (hd_X4_tell : d_X4_tell + 1 ≤ d) {d_X5_tell : Nat} (h_X5_tell : CM l SH E yX5_tell cX5_tell 3 (some .boolean) d_X5_tell (env 114)) (hd_X5_tell : d_X5_tell + 1 ≤ d) {d_X4_told : Nat} (h_X4_told : CM l SH E yX4_told cX4_told 2 (some .int) d_X4_told (env 50)) (hd_X4_told : d_X4_told + 1 ≤ d) {d_X5_told : Nat} (h_X5_told : CM l SH E yX5_told cX5_told 2 (some .int) d_X5_told (env 115)) (hd_X5_told : d_X5_told + 1 ≤ d) {d_X4_mend : Nat} (h_X4_mend : CM l SH E yX4_mend cX4_mend 2 (some .int) d_X4_mend (env 51)) (hd_X4_mend : d_X4_mend + 1 ≤ d) {d_X5_mend : Nat} (h_X5_mend : CM l SH E yX5_mend cX5_mend 10 (some .int) d_X5_mend (env 117)) (hd_X5_mend : d_X5_mend + 1 ≤ d) {d_X4_undo : Nat} (h_X4_undo : CM l SH E yX4_undo cX4_undo 1 (some .boolean) d_X4_undo (env 52)) (hd_X4_undo : d_X4_undo + 1 ≤ d) {d_X5_undo : Nat} (h_X5_undo : CM l SH E yX5_undo cX5_undo 2 (some .boolean) d_X5_undo (env 71)) (hd_X5_undo : d_X5_undo + 1 ≤ d) : ∀ q ∈ T_L_law_13 E env, SS p l e R s m args below meth c cells slots Q D C A ad SH 4 cL_law (some .boolean) q.1 q.2 := by
  unfold T_L_law_13
  refine List.forall_mem_cons.mpr ⟨s_callV (pc := 774) X (idx := 100) (by decide +kernel) h_X5_keys rfl lk_RL_100 ls_X5_keys lz_X5_keys li_RX5 lc_X5_keys hv_X5_keys ⟨Nat.le_trans hd_X5_keys hR.1, Nat.le_trans (by have := hd_X5_keys; omega) hR.2⟩ hcs, ?_⟩
  refine List.forall_mem_cons.mpr ⟨s_eq (pc := 777) X (off := 120) (by decide +kernel) (by decide), ?_⟩
  refine List.forall_mem_cons.mpr ⟨s_iconst (pc := 780) X (n := 0) (by decide +kernel) (by decide), ?_⟩
  refine List.forall_mem_cons.mpr ⟨s_retZ (pc := 781) (by decide +kernel), ?_⟩
  refine List.forall_mem_cons.mpr ⟨s_aload_n (pc := 782) X (i := 1) (by decide +kernel) rfl, ?_⟩
  refine List.forall_mem_cons.mpr ⟨s_aload_n (pc := 783) X (i := 0) (by decide +kernel) rfl, ?_⟩
  refine List.forall_mem_cons.mpr ⟨s_iload_n (pc := 784) X (i := 3) (by decide +kernel) rfl, ?_⟩
  refine List.forall_mem_cons.mpr ⟨s_iconst (pc := 785) X (n := 1) (by decide +kernel) (by decide), ?_⟩
  refine List.forall_mem_cons.mpr ⟨s_iadd (pc := 786) X (by decide +kernel), ?_⟩
  refine List.forall_mem_cons.mpr ⟨s_iald (pc := 787) X (by decide +kernel), ?_⟩
  refine List.forall_mem_cons.mpr ⟨s_callV (pc := 788) X (idx := 101) (by decide +kernel) h_X4_key rfl lk_RL_101 ls_X4_key lz_X4_key li_RX4 lc_X4_key hv_X4_key ⟨Nat.le_trans hd_X4_key hR.1, Nat.le_trans (by have := hd_X4_key; omega) hR.2⟩ hcs, ?_⟩
  refine List.forall_mem_cons.mpr ⟨s_aload_n (pc := 791) X (i := 2) (by decide +kernel) rfl, ?_⟩
  refine List.forall_mem_cons.mpr ⟨s_aload_n (pc := 792) X (i := 0) (by decide +kernel) rfl, ?_⟩
  refine List.forall_mem_cons.mpr ⟨s_iload_n (pc := 793) X (i := 3) (by decide +kernel) rfl, ?_⟩
  refine List.forall_mem_cons.mpr ⟨s_iconst (pc := 794) X (n := 1) (by decide +kernel) (by decide), ?_⟩
  refine List.forall_mem_cons.mpr ⟨s_iadd (pc := 795) X (by decide +kernel), ?_⟩
  refine List.forall_mem_cons.mpr ⟨s_iald (pc := 796) X (by decide +kernel), ?_⟩
  refine List.forall_mem_cons.mpr ⟨s_callV (pc := 797) X (idx := 104) (by decide +kernel) h_X5_key rfl lk_RL_104 ls_X5_key lz_X5_key li_RX5 lc_X5_key hv_X5_key ⟨Nat.le_trans hd_X5_key hR.1, Nat.le_trans (by have := hd_X5_key; omega) hR.2⟩ hcs, ?_⟩
  refine List.forall_mem_cons.mpr ⟨s_eq (pc := 800) X (off := 97) (by decide +kernel) (by decide), ?_⟩
  refine List.forall_mem_cons.mpr ⟨s_iconst (pc := 803) X (n := 0) (by decide +kernel) (by decide), ?_⟩
  refine List.forall_mem_cons.mpr ⟨s_retZ (pc := 804) (by decide +kernel), ?_⟩
  refine List.forall_mem_cons.mpr ⟨s_aload_n (pc := 805) X (i := 1) (by decide +kernel) rfl, ?_⟩
  refine List.forall_mem_cons.mpr ⟨s_aload_n (pc := 806) X (i := 0) (by decide +kernel) rfl, ?_⟩
  refine List.forall_mem_cons.mpr ⟨s_iload_n (pc := 807) X (i := 3) (by decide +kernel) rfl, ?_⟩
  refine List.forall_mem_cons.mpr ⟨s_iconst (pc := 808) X (n := 1) (by decide +kernel) (by decide), ?_⟩
  refine List.forall_mem_cons.mpr ⟨s_iadd (pc := 809) X (by decide +kernel), ?_⟩
  refine List.forall_mem_cons.mpr ⟨s_iald (pc := 810) X (by decide +kernel), ?_⟩
  refine List.forall_mem_cons.mpr ⟨s_aload_n (pc := 811) X (i := 0) (by decide +kernel) rfl, ?_⟩
  refine List.forall_mem_cons.mpr ⟨s_iload_n (pc := 812) X (i := 3) (by decide +kernel) rfl, ?_⟩
  refine List.forall_mem_cons.mpr ⟨s_iconst (pc := 813) X (n := 2) (by decide +kernel) (by decide), ?_⟩
  refine List.forall_mem_cons.mpr ⟨s_iadd (pc := 814) X (by decide +kernel), ?_⟩
  refine List.forall_mem_cons.mpr ⟨s_iald (pc := 815) X (by decide +kernel), ?_⟩
  refine List.forall_mem_cons.mpr ⟨s_callV (pc := 816) X (idx := 105) (by decide +kernel) h_X4_tell rfl lk_RL_105 ls_X4_tell lz_X4_tell li_RX4 lc_X4_tell hv_X4_tell ⟨Nat.le_trans hd_X4_tell hR.1, Nat.le_trans (by have := hd_X4_tell; omega) hR.2⟩ hcs, ?_⟩
  refine List.forall_mem_cons.mpr ⟨s_aload_n (pc := 819) X (i := 2) (by decide +kernel) rfl, ?_⟩
  refine List.forall_mem_cons.mpr ⟨s_aload_n (pc := 820) X (i := 0) (by decide +kernel) rfl, ?_⟩
  refine List.forall_mem_cons.mpr ⟨s_iload_n (pc := 821) X (i := 3) (by decide +kernel) rfl, ?_⟩
  refine List.forall_mem_cons.mpr ⟨s_iconst (pc := 822) X (n := 1) (by decide +kernel) (by decide), ?_⟩
  refine List.forall_mem_cons.mpr ⟨s_iadd (pc := 823) X (by decide +kernel), ?_⟩
  refine List.forall_mem_cons.mpr ⟨s_iald (pc := 824) X (by decide +kernel), ?_⟩
  refine List.forall_mem_cons.mpr ⟨s_aload_n (pc := 825) X (i := 0) (by decide +kernel) rfl, ?_⟩
  exact fun _ h => absurd h List.not_mem_nil
def T_L_law_14 (E : Ex) (env : Nat → Mf) : List (Nat × Stq) := [(826, o_il 827 3),
  (827, o_ic 828 (2)),
  (828, o_b2 829 (fun x y => x + y)),
  (829, o_ia SH E 830),
  (830, o_callV SH env 833 114 2 5),
  (833, o_eq 897 836),
  (836, o_ic 837 (0)),
  (837, o_retZ),
  (838, o_al 839 1),
  (839, o_al 840 0),
  (840, o_il 841 3),
  (841, o_ic 842 (1)),
  (842, o_b2 843 (fun x y => x + y)),
  (843, o_ia SH E 844),
  (844, o_callV SH env 847 50 1 4),
  (847, o_al 848 2),
  (848, o_al 849 0),
  (849, o_il 850 3),
  (850, o_ic 851 (1)),
  (851, o_b2 852 (fun x y => x + y)),
  (852, o_ia SH E 853),
  (853, o_callV SH env 856 115 1 5),
  (856, o_eq 897 859),
  (859, o_ic 860 (0)),
  (860, o_retZ),
  (861, o_al 862 1),
  (862, o_al 863 0),
  (863, o_il 864 3),
  (864, o_ic 865 (1)),
  (865, o_b2 866 (fun x y => x + y)),
  (866, o_ia SH E 867),
  (867, o_callV SH env 870 51 1 4),
  (870, o_al 871 2),
  (871, o_al 872 0),
  (872, o_il 873 3),
  (873, o_ic 874 (1)),
  (874, o_b2 875 (fun x y => x + y)),
  (875, o_ia SH E 876),
  (876, o_callV SH env 879 117 1 5),
  (879, o_eq 897 882)]
set_option maxRecDepth 100000 in
set_option maxHeartbeats 4000000 in
theorem ts_L_law_14 {p : Program} {l : Launch} {e : Env} {R : Room} {s : State} {m : MethodId} {args : Array Value} {below : List Frame} {meth : Method} {c : Code} {cells slots : Nat} {Q : State → Prop} {D : va_G} {C : CI3} {A : Nat → Prop} {ad : Nat → Nat} {E : Ex} {env : Nat → Mf} {d : Nat} (X : Cx p R s m args c cL_law 4 RL D C A ad SH E) (hR : d ≤ R.frames ∧ 100 * d ≤ R.locals) (hcs : cells ≤ R.cells ∧ slots ≤ R.slots) {d_X4_table : Nat} (h_X4_table : CM l SH E yX4_table cX4_table 2 (some .boolean) d_X4_table (env 28)) (hd_X4_table : d_X4_table + 1 ≤ d) {d_X5_table : Nat} (h_X5_table : CM l SH E yX5_table cX5_table 3 (some .boolean) d_X5_table (env 72)) (hd_X5_table : d_X5_table + 1 ≤ d) {d_X4_put : Nat} (h_X4_put : CM l SH E yX4_put cX4_put 8 (some .boolean) d_X4_put (env 29)) (hd_X4_put : d_X4_put + 1 ≤ d) {d_X5_put : Nat} (h_X5_put : CM l SH E yX5_put cX5_put 11 (some .boolean) d_X5_put (env 74)) (hd_X5_put : d_X5_put + 1 ≤ d) {d_X4_change : Nat} (h_X4_change : CM l SH E yX4_change cX4_change 4 (some .boolean) d_X4_change (env 30)) (hd_X4_change : d_X4_change + 1 ≤ d) {d_X5_change : Nat} (h_X5_change : CM l SH E yX5_change cX5_change 4 (some .boolean) d_X5_change (env 75)) (hd_X5_change : d_X5_change + 1 ≤ d) {d_X4_strike : Nat} (h_X4_strike : CM l SH E yX4_strike cX4_strike 2 (some .boolean) d_X4_strike (env 31)) (hd_X4_strike : d_X4_strike + 1 ≤ d) {d_X5_strike : Nat} (h_X5_strike : CM l SH E yX5_strike cX5_strike 2 (some .boolean) d_X5_strike (env 76)) (hd_X5_strike : d_X5_strike + 1 ≤ d) {d_X4_price : Nat} (h_X4_price : CM l SH E yX4_price cX4_price 3 (some .boolean) d_X4_price (env 32)) (hd_X4_price : d_X4_price + 1 ≤ d) {d_X5_price : Nat} (h_X5_price : CM l SH E yX5_price cX5_price 3 (some .boolean) d_X5_price (env 77)) (hd_X5_price : d_X5_price + 1 ≤ d) {d_X4_swap : Nat} (h_X4_swap : CM l SH E yX4_swap cX4_swap 3 (some .boolean) d_X4_swap (env 33)) (hd_X4_swap : d_X4_swap + 1 ≤ d) {d_X5_swap : Nat} (h_X5_swap : CM l SH E yX5_swap cX5_swap 5 (some .boolean) d_X5_swap (env 78)) (hd_X5_swap : d_X5_swap + 1 ≤ d) {d_X4_at : Nat} (h_X4_at : CM l SH E yX4_at cX4_at 3 (some .int) d_X4_at (env 34)) (hd_X4_at : d_X4_at + 1 ≤ d) {d_X5_at : Nat} (h_X5_at : CM l SH E yX5_at cX5_at 3 (some .int) d_X5_at (env 79)) (hd_X5_at : d_X5_at + 1 ≤ d) {d_X4_row : Nat} (h_X4_row : CM l SH E yX4_row cX4_row 3 (some .int) d_X4_row (env 35)) (hd_X4_row : d_X4_row + 1 ≤ d) {d_X5_row : Nat} (h_X5_row : CM l SH E yX5_row cX5_row 3 (some .int) d_X5_row (env 80)) (hd_X5_row : d_X5_row + 1 ≤ d) {d_X4_between : Nat} (h_X4_between : CM l SH E yX4_between cX4_between 3 (some .int) d_X4_between (env 36)) (hd_X4_between : d_X4_between + 1 ≤ d) {d_X5_between : Nat} (h_X5_between : CM l SH E yX5_between cX5_between 3 (some .int) d_X5_between (env 85)) (hd_X5_between : d_X5_between + 1 ≤ d) {d_X4_pairs : Nat} (h_X4_pairs : CM l SH E yX4_pairs cX4_pairs 2 (some .int) d_X4_pairs (env 37)) (hd_X4_pairs : d_X4_pairs + 1 ≤ d) {d_X5_pairs : Nat} (h_X5_pairs : CM l SH E yX5_pairs cX5_pairs 3 (some .int) d_X5_pairs (env 88)) (hd_X5_pairs : d_X5_pairs + 1 ≤ d) {d_X4_kinds : Nat} (h_X4_kinds : CM l SH E yX4_kinds cX4_kinds 1 (some .int) d_X4_kinds (env 38)) (hd_X4_kinds : d_X4_kinds + 1 ≤ d) {d_X5_kinds : Nat} (h_X5_kinds : CM l SH E yX5_kinds cX5_kinds 3 (some .int) d_X5_kinds (env 89)) (hd_X5_kinds : d_X5_kinds + 1 ≤ d) {d_X4_broken : Nat} (h_X4_broken : CM l SH E yX4_broken cX4_broken 2 (some .int) d_X4_broken (env 39)) (hd_X4_broken : d_X4_broken + 1 ≤ d) {d_X5_broken : Nat} (h_X5_broken : CM l SH E yX5_broken cX5_broken 2 (some .int) d_X5_broken (env 97)) (hd_X5_broken : d_X5_broken + 1 ≤ d) {d_X4_breaker : Nat} (h_X4_breaker : CM l SH E yX4_breaker cX4_breaker 7 (some .int) d_X4_breaker (env 40)) (hd_X4_breaker : d_X4_breaker + 1 ≤ d) {d_X5_breaker : Nat} (h_X5_breaker : CM l SH E yX5_breaker cX5_breaker 7 (some .int) d_X5_breaker (env 98)) (hd_X5_breaker : d_X5_breaker + 1 ≤ d) {d_X4_laws : Nat} (h_X4_laws : CM l SH E yX4_laws cX4_laws 5 (some .int) d_X4_laws (env 41)) (hd_X4_laws : d_X4_laws + 1 ≤ d) {d_X5_laws : Nat} (h_X5_laws : CM l SH E yX5_laws cX5_laws 3 (some .int) d_X5_laws (env 104)) (hd_X5_laws : d_X5_laws + 1 ≤ d) {d_X4_law : Nat} (h_X4_law : CM l SH E yX4_law cX4_law 6 (some .int) d_X4_law (env 42)) (hd_X4_law : d_X4_law + 1 ≤ d) {d_X5_law : Nat} (h_X5_law : CM l SH E yX5_law cX5_law 4 (some .int) d_X5_law (env 105)) (hd_X5_law : d_X5_law + 1 ≤ d) {d_X4_sort : Nat} (h_X4_sort : CM l SH E yX4_sort cX4_sort 6 (some .int) d_X4_sort (env 43)) (hd_X4_sort : d_X4_sort + 1 ≤ d) {d_X5_sort : Nat} (h_X5_sort : CM l SH E yX5_sort cX5_sort 7 (some .int) d_X5_sort (env 106)) (hd_X5_sort : d_X5_sort + 1 ≤ d) {d_X4_least : Nat} (h_X4_least : CM l SH E yX4_least cX4_least 2 (some .int) d_X4_least (env 44)) (hd_X4_least : d_X4_least + 1 ≤ d) {d_X5_least : Nat} (h_X5_least : CM l SH E yX5_least cX5_least 2 (some .int) d_X5_least (env 93)) (hd_X5_least : d_X5_least + 1 ≤ d) {d_X4_said : Nat} (h_X4_said : CM l SH E yX4_said cX4_said 3 (some .int) d_X4_said (env 45)) (hd_X4_said : d_X4_said + 1 ≤ d) {d_X5_said : Nat} (h_X5_said : CM l SH E yX5_said cX5_said 3 (some .int) d_X5_said (env 101)) (hd_X5_said : d_X5_said + 1 ≤ d) {d_X4_settles : Nat} (h_X4_settles : CM l SH E yX4_settles cX4_settles 4 (some .int) d_X4_settles (env 46)) (hd_X4_settles : d_X4_settles + 1 ≤ d) {d_X5_settles : Nat} (h_X5_settles : CM l SH E yX5_settles cX5_settles 6 (some .int) d_X5_settles (env 109)) (hd_X5_settles : d_X5_settles + 1 ≤ d) {d_X4_keys : Nat} (h_X4_keys : CM l SH E yX4_keys cX4_keys 3 (some .int) d_X4_keys (env 47)) (hd_X4_keys : d_X4_keys + 1 ≤ d) {d_X5_keys : Nat} (h_X5_keys : CM l SH E yX5_keys cX5_keys 3 (some .int) d_X5_keys (env 112)) (hd_X5_keys : d_X5_keys + 1 ≤ d) {d_X4_key : Nat} (h_X4_key : CM l SH E yX4_key cX4_key 4 (some .int) d_X4_key (env 48)) (hd_X4_key : d_X4_key + 1 ≤ d) {d_X5_key : Nat} (h_X5_key : CM l SH E yX5_key cX5_key 4 (some .int) d_X5_key (env 113)) (hd_X5_key : d_X5_key + 1 ≤ d) {d_X4_tell : Nat} (h_X4_tell : CM l SH E yX4_tell cX4_tell 3 (some .boolean) d_X4_tell (env 49)) (hd_X4_tell : d_X4_tell + 1 ≤ d) {d_X5_tell : Nat} (h_X5_tell : CM l SH E yX5_tell cX5_tell 3 (some .boolean) d_X5_tell (env 114)) (hd_X5_tell : d_X5_tell + 1 ≤ d) {d_X4_told : Nat} (h_X4_told : CM l SH E yX4_told cX4_told 2 (some .int) d_X4_told (env 50)) (hd_X4_told : d_X4_told + 1 ≤ d) {d_X5_told : Nat} (h_X5_told : CM l SH E yX5_told cX5_told 2 (some .int) d_X5_told (env 115)) (hd_X5_told : d_X5_told + 1 ≤ d) {d_X4_mend : Nat} (h_X4_mend : CM l SH E yX4_mend cX4_mend 2 (some .int) d_X4_mend (env 51)) (hd_X4_mend : d_X4_mend + 1 ≤ d) {d_X5_mend : Nat} (h_X5_mend : CM l SH E yX5_mend cX5_mend 10 (some .int) d_X5_mend (env 117)) (hd_X5_mend : d_X5_mend + 1 ≤ d) {d_X4_undo : Nat} (h_X4_undo : CM l SH E yX4_undo cX4_undo 1 (some .boolean) d_X4_undo (env 52)) (hd_X4_undo : d_X4_undo + 1 ≤ d) {d_X5_undo : Nat} (h_X5_undo : CM l SH E yX5_undo cX5_undo 2 (some .boolean) d_X5_undo (env 71)) (hd_X5_undo : d_X5_undo + 1 ≤ d) : ∀ q ∈ T_L_law_14 E env, SS p l e R s m args below meth c cells slots Q D C A ad SH 4 cL_law (some .boolean) q.1 q.2 := by
  unfold T_L_law_14
  refine List.forall_mem_cons.mpr ⟨s_iload_n (pc := 826) X (i := 3) (by decide +kernel) rfl, ?_⟩
  refine List.forall_mem_cons.mpr ⟨s_iconst (pc := 827) X (n := 2) (by decide +kernel) (by decide), ?_⟩
  refine List.forall_mem_cons.mpr ⟨s_iadd (pc := 828) X (by decide +kernel), ?_⟩
  refine List.forall_mem_cons.mpr ⟨s_iald (pc := 829) X (by decide +kernel), ?_⟩
  refine List.forall_mem_cons.mpr ⟨s_callV (pc := 830) X (idx := 108) (by decide +kernel) h_X5_tell rfl lk_RL_108 ls_X5_tell lz_X5_tell li_RX5 lc_X5_tell hv_X5_tell ⟨Nat.le_trans hd_X5_tell hR.1, Nat.le_trans (by have := hd_X5_tell; omega) hR.2⟩ hcs, ?_⟩
  refine List.forall_mem_cons.mpr ⟨s_eq (pc := 833) X (off := 64) (by decide +kernel) (by decide), ?_⟩
  refine List.forall_mem_cons.mpr ⟨s_iconst (pc := 836) X (n := 0) (by decide +kernel) (by decide), ?_⟩
  refine List.forall_mem_cons.mpr ⟨s_retZ (pc := 837) (by decide +kernel), ?_⟩
  refine List.forall_mem_cons.mpr ⟨s_aload_n (pc := 838) X (i := 1) (by decide +kernel) rfl, ?_⟩
  refine List.forall_mem_cons.mpr ⟨s_aload_n (pc := 839) X (i := 0) (by decide +kernel) rfl, ?_⟩
  refine List.forall_mem_cons.mpr ⟨s_iload_n (pc := 840) X (i := 3) (by decide +kernel) rfl, ?_⟩
  refine List.forall_mem_cons.mpr ⟨s_iconst (pc := 841) X (n := 1) (by decide +kernel) (by decide), ?_⟩
  refine List.forall_mem_cons.mpr ⟨s_iadd (pc := 842) X (by decide +kernel), ?_⟩
  refine List.forall_mem_cons.mpr ⟨s_iald (pc := 843) X (by decide +kernel), ?_⟩
  refine List.forall_mem_cons.mpr ⟨s_callV (pc := 844) X (idx := 109) (by decide +kernel) h_X4_told rfl lk_RL_109 ls_X4_told lz_X4_told li_RX4 lc_X4_told hv_X4_told ⟨Nat.le_trans hd_X4_told hR.1, Nat.le_trans (by have := hd_X4_told; omega) hR.2⟩ hcs, ?_⟩
  refine List.forall_mem_cons.mpr ⟨s_aload_n (pc := 847) X (i := 2) (by decide +kernel) rfl, ?_⟩
  refine List.forall_mem_cons.mpr ⟨s_aload_n (pc := 848) X (i := 0) (by decide +kernel) rfl, ?_⟩
  refine List.forall_mem_cons.mpr ⟨s_iload_n (pc := 849) X (i := 3) (by decide +kernel) rfl, ?_⟩
  refine List.forall_mem_cons.mpr ⟨s_iconst (pc := 850) X (n := 1) (by decide +kernel) (by decide), ?_⟩
  refine List.forall_mem_cons.mpr ⟨s_iadd (pc := 851) X (by decide +kernel), ?_⟩
  refine List.forall_mem_cons.mpr ⟨s_iald (pc := 852) X (by decide +kernel), ?_⟩
  refine List.forall_mem_cons.mpr ⟨s_callV (pc := 853) X (idx := 112) (by decide +kernel) h_X5_told rfl lk_RL_112 ls_X5_told lz_X5_told li_RX5 lc_X5_told hv_X5_told ⟨Nat.le_trans hd_X5_told hR.1, Nat.le_trans (by have := hd_X5_told; omega) hR.2⟩ hcs, ?_⟩
  refine List.forall_mem_cons.mpr ⟨s_eq (pc := 856) X (off := 41) (by decide +kernel) (by decide), ?_⟩
  refine List.forall_mem_cons.mpr ⟨s_iconst (pc := 859) X (n := 0) (by decide +kernel) (by decide), ?_⟩
  refine List.forall_mem_cons.mpr ⟨s_retZ (pc := 860) (by decide +kernel), ?_⟩
  refine List.forall_mem_cons.mpr ⟨s_aload_n (pc := 861) X (i := 1) (by decide +kernel) rfl, ?_⟩
  refine List.forall_mem_cons.mpr ⟨s_aload_n (pc := 862) X (i := 0) (by decide +kernel) rfl, ?_⟩
  refine List.forall_mem_cons.mpr ⟨s_iload_n (pc := 863) X (i := 3) (by decide +kernel) rfl, ?_⟩
  refine List.forall_mem_cons.mpr ⟨s_iconst (pc := 864) X (n := 1) (by decide +kernel) (by decide), ?_⟩
  refine List.forall_mem_cons.mpr ⟨s_iadd (pc := 865) X (by decide +kernel), ?_⟩
  refine List.forall_mem_cons.mpr ⟨s_iald (pc := 866) X (by decide +kernel), ?_⟩
  refine List.forall_mem_cons.mpr ⟨s_callV (pc := 867) X (idx := 113) (by decide +kernel) h_X4_mend rfl lk_RL_113 ls_X4_mend lz_X4_mend li_RX4 lc_X4_mend hv_X4_mend ⟨Nat.le_trans hd_X4_mend hR.1, Nat.le_trans (by have := hd_X4_mend; omega) hR.2⟩ hcs, ?_⟩
  refine List.forall_mem_cons.mpr ⟨s_aload_n (pc := 870) X (i := 2) (by decide +kernel) rfl, ?_⟩
  refine List.forall_mem_cons.mpr ⟨s_aload_n (pc := 871) X (i := 0) (by decide +kernel) rfl, ?_⟩
  refine List.forall_mem_cons.mpr ⟨s_iload_n (pc := 872) X (i := 3) (by decide +kernel) rfl, ?_⟩
  refine List.forall_mem_cons.mpr ⟨s_iconst (pc := 873) X (n := 1) (by decide +kernel) (by decide), ?_⟩
  refine List.forall_mem_cons.mpr ⟨s_iadd (pc := 874) X (by decide +kernel), ?_⟩
  refine List.forall_mem_cons.mpr ⟨s_iald (pc := 875) X (by decide +kernel), ?_⟩
  refine List.forall_mem_cons.mpr ⟨s_callV (pc := 876) X (idx := 116) (by decide +kernel) h_X5_mend rfl lk_RL_116 ls_X5_mend lz_X5_mend li_RX5 lc_X5_mend hv_X5_mend ⟨Nat.le_trans hd_X5_mend hR.1, Nat.le_trans (by have := hd_X5_mend; omega) hR.2⟩ hcs, ?_⟩
  refine List.forall_mem_cons.mpr ⟨s_eq (pc := 879) X (off := 18) (by decide +kernel) (by decide), ?_⟩
  exact fun _ h => absurd h List.not_mem_nil
def T_L_law_15 (E : Ex) (env : Nat → Mf) : List (Nat × Stq) := [(882, o_ic 883 (0)),
  (883, o_retZ),
  (884, o_al 885 1),
  (885, o_callV SH env 888 52 0 4),
  (888, o_al 889 2),
  (889, o_callV SH env 892 71 0 5),
  (892, o_eq 897 895),
  (895, o_ic 896 (0)),
  (896, o_retZ),
  (897, o_inc 900 3 (8)),
  (900, o_goto 18),
  (903, o_ic 904 (1)),
  (904, o_retZ)]
set_option maxRecDepth 100000 in
set_option maxHeartbeats 4000000 in
theorem ts_L_law_15 {p : Program} {l : Launch} {e : Env} {R : Room} {s : State} {m : MethodId} {args : Array Value} {below : List Frame} {meth : Method} {c : Code} {cells slots : Nat} {Q : State → Prop} {D : va_G} {C : CI3} {A : Nat → Prop} {ad : Nat → Nat} {E : Ex} {env : Nat → Mf} {d : Nat} (X : Cx p R s m args c cL_law 4 RL D C A ad SH E) (hR : d ≤ R.frames ∧ 100 * d ≤ R.locals) (hcs : cells ≤ R.cells ∧ slots ≤ R.slots) {d_X4_table : Nat} (h_X4_table : CM l SH E yX4_table cX4_table 2 (some .boolean) d_X4_table (env 28)) (hd_X4_table : d_X4_table + 1 ≤ d) {d_X5_table : Nat} (h_X5_table : CM l SH E yX5_table cX5_table 3 (some .boolean) d_X5_table (env 72)) (hd_X5_table : d_X5_table + 1 ≤ d) {d_X4_put : Nat} (h_X4_put : CM l SH E yX4_put cX4_put 8 (some .boolean) d_X4_put (env 29)) (hd_X4_put : d_X4_put + 1 ≤ d) {d_X5_put : Nat} (h_X5_put : CM l SH E yX5_put cX5_put 11 (some .boolean) d_X5_put (env 74)) (hd_X5_put : d_X5_put + 1 ≤ d) {d_X4_change : Nat} (h_X4_change : CM l SH E yX4_change cX4_change 4 (some .boolean) d_X4_change (env 30)) (hd_X4_change : d_X4_change + 1 ≤ d) {d_X5_change : Nat} (h_X5_change : CM l SH E yX5_change cX5_change 4 (some .boolean) d_X5_change (env 75)) (hd_X5_change : d_X5_change + 1 ≤ d) {d_X4_strike : Nat} (h_X4_strike : CM l SH E yX4_strike cX4_strike 2 (some .boolean) d_X4_strike (env 31)) (hd_X4_strike : d_X4_strike + 1 ≤ d) {d_X5_strike : Nat} (h_X5_strike : CM l SH E yX5_strike cX5_strike 2 (some .boolean) d_X5_strike (env 76)) (hd_X5_strike : d_X5_strike + 1 ≤ d) {d_X4_price : Nat} (h_X4_price : CM l SH E yX4_price cX4_price 3 (some .boolean) d_X4_price (env 32)) (hd_X4_price : d_X4_price + 1 ≤ d) {d_X5_price : Nat} (h_X5_price : CM l SH E yX5_price cX5_price 3 (some .boolean) d_X5_price (env 77)) (hd_X5_price : d_X5_price + 1 ≤ d) {d_X4_swap : Nat} (h_X4_swap : CM l SH E yX4_swap cX4_swap 3 (some .boolean) d_X4_swap (env 33)) (hd_X4_swap : d_X4_swap + 1 ≤ d) {d_X5_swap : Nat} (h_X5_swap : CM l SH E yX5_swap cX5_swap 5 (some .boolean) d_X5_swap (env 78)) (hd_X5_swap : d_X5_swap + 1 ≤ d) {d_X4_at : Nat} (h_X4_at : CM l SH E yX4_at cX4_at 3 (some .int) d_X4_at (env 34)) (hd_X4_at : d_X4_at + 1 ≤ d) {d_X5_at : Nat} (h_X5_at : CM l SH E yX5_at cX5_at 3 (some .int) d_X5_at (env 79)) (hd_X5_at : d_X5_at + 1 ≤ d) {d_X4_row : Nat} (h_X4_row : CM l SH E yX4_row cX4_row 3 (some .int) d_X4_row (env 35)) (hd_X4_row : d_X4_row + 1 ≤ d) {d_X5_row : Nat} (h_X5_row : CM l SH E yX5_row cX5_row 3 (some .int) d_X5_row (env 80)) (hd_X5_row : d_X5_row + 1 ≤ d) {d_X4_between : Nat} (h_X4_between : CM l SH E yX4_between cX4_between 3 (some .int) d_X4_between (env 36)) (hd_X4_between : d_X4_between + 1 ≤ d) {d_X5_between : Nat} (h_X5_between : CM l SH E yX5_between cX5_between 3 (some .int) d_X5_between (env 85)) (hd_X5_between : d_X5_between + 1 ≤ d) {d_X4_pairs : Nat} (h_X4_pairs : CM l SH E yX4_pairs cX4_pairs 2 (some .int) d_X4_pairs (env 37)) (hd_X4_pairs : d_X4_pairs + 1 ≤ d) {d_X5_pairs : Nat} (h_X5_pairs : CM l SH E yX5_pairs cX5_pairs 3 (some .int) d_X5_pairs (env 88)) (hd_X5_pairs : d_X5_pairs + 1 ≤ d) {d_X4_kinds : Nat} (h_X4_kinds : CM l SH E yX4_kinds cX4_kinds 1 (some .int) d_X4_kinds (env 38)) (hd_X4_kinds : d_X4_kinds + 1 ≤ d) {d_X5_kinds : Nat} (h_X5_kinds : CM l SH E yX5_kinds cX5_kinds 3 (some .int) d_X5_kinds (env 89)) (hd_X5_kinds : d_X5_kinds + 1 ≤ d) {d_X4_broken : Nat} (h_X4_broken : CM l SH E yX4_broken cX4_broken 2 (some .int) d_X4_broken (env 39)) (hd_X4_broken : d_X4_broken + 1 ≤ d) {d_X5_broken : Nat} (h_X5_broken : CM l SH E yX5_broken cX5_broken 2 (some .int) d_X5_broken (env 97)) (hd_X5_broken : d_X5_broken + 1 ≤ d) {d_X4_breaker : Nat} (h_X4_breaker : CM l SH E yX4_breaker cX4_breaker 7 (some .int) d_X4_breaker (env 40)) (hd_X4_breaker : d_X4_breaker + 1 ≤ d) {d_X5_breaker : Nat} (h_X5_breaker : CM l SH E yX5_breaker cX5_breaker 7 (some .int) d_X5_breaker (env 98)) (hd_X5_breaker : d_X5_breaker + 1 ≤ d) {d_X4_laws : Nat} (h_X4_laws : CM l SH E yX4_laws cX4_laws 5 (some .int) d_X4_laws (env 41)) (hd_X4_laws : d_X4_laws + 1 ≤ d) {d_X5_laws : Nat} (h_X5_laws : CM l SH E yX5_laws cX5_laws 3 (some .int) d_X5_laws (env 104)) (hd_X5_laws : d_X5_laws + 1 ≤ d) {d_X4_law : Nat} (h_X4_law : CM l SH E yX4_law cX4_law 6 (some .int) d_X4_law (env 42)) (hd_X4_law : d_X4_law + 1 ≤ d) {d_X5_law : Nat} (h_X5_law : CM l SH E yX5_law cX5_law 4 (some .int) d_X5_law (env 105)) (hd_X5_law : d_X5_law + 1 ≤ d) {d_X4_sort : Nat} (h_X4_sort : CM l SH E yX4_sort cX4_sort 6 (some .int) d_X4_sort (env 43)) (hd_X4_sort : d_X4_sort + 1 ≤ d) {d_X5_sort : Nat} (h_X5_sort : CM l SH E yX5_sort cX5_sort 7 (some .int) d_X5_sort (env 106)) (hd_X5_sort : d_X5_sort + 1 ≤ d) {d_X4_least : Nat} (h_X4_least : CM l SH E yX4_least cX4_least 2 (some .int) d_X4_least (env 44)) (hd_X4_least : d_X4_least + 1 ≤ d) {d_X5_least : Nat} (h_X5_least : CM l SH E yX5_least cX5_least 2 (some .int) d_X5_least (env 93)) (hd_X5_least : d_X5_least + 1 ≤ d) {d_X4_said : Nat} (h_X4_said : CM l SH E yX4_said cX4_said 3 (some .int) d_X4_said (env 45)) (hd_X4_said : d_X4_said + 1 ≤ d) {d_X5_said : Nat} (h_X5_said : CM l SH E yX5_said cX5_said 3 (some .int) d_X5_said (env 101)) (hd_X5_said : d_X5_said + 1 ≤ d) {d_X4_settles : Nat} (h_X4_settles : CM l SH E yX4_settles cX4_settles 4 (some .int) d_X4_settles (env 46)) (hd_X4_settles : d_X4_settles + 1 ≤ d) {d_X5_settles : Nat} (h_X5_settles : CM l SH E yX5_settles cX5_settles 6 (some .int) d_X5_settles (env 109)) (hd_X5_settles : d_X5_settles + 1 ≤ d) {d_X4_keys : Nat} (h_X4_keys : CM l SH E yX4_keys cX4_keys 3 (some .int) d_X4_keys (env 47)) (hd_X4_keys : d_X4_keys + 1 ≤ d) {d_X5_keys : Nat} (h_X5_keys : CM l SH E yX5_keys cX5_keys 3 (some .int) d_X5_keys (env 112)) (hd_X5_keys : d_X5_keys + 1 ≤ d) {d_X4_key : Nat} (h_X4_key : CM l SH E yX4_key cX4_key 4 (some .int) d_X4_key (env 48)) (hd_X4_key : d_X4_key + 1 ≤ d) {d_X5_key : Nat} (h_X5_key : CM l SH E yX5_key cX5_key 4 (some .int) d_X5_key (env 113)) (hd_X5_key : d_X5_key + 1 ≤ d) {d_X4_tell : Nat} (h_X4_tell : CM l SH E yX4_tell cX4_tell 3 (some .boolean) d_X4_tell (env 49)) (hd_X4_tell : d_X4_tell + 1 ≤ d) {d_X5_tell : Nat} (h_X5_tell : CM l SH E yX5_tell cX5_tell 3 (some .boolean) d_X5_tell (env 114)) (hd_X5_tell : d_X5_tell + 1 ≤ d) {d_X4_told : Nat} (h_X4_told : CM l SH E yX4_told cX4_told 2 (some .int) d_X4_told (env 50)) (hd_X4_told : d_X4_told + 1 ≤ d) {d_X5_told : Nat} (h_X5_told : CM l SH E yX5_told cX5_told 2 (some .int) d_X5_told (env 115)) (hd_X5_told : d_X5_told + 1 ≤ d) {d_X4_mend : Nat} (h_X4_mend : CM l SH E yX4_mend cX4_mend 2 (some .int) d_X4_mend (env 51)) (hd_X4_mend : d_X4_mend + 1 ≤ d) {d_X5_mend : Nat} (h_X5_mend : CM l SH E yX5_mend cX5_mend 10 (some .int) d_X5_mend (env 117)) (hd_X5_mend : d_X5_mend + 1 ≤ d) {d_X4_undo : Nat} (h_X4_undo : CM l SH E yX4_undo cX4_undo 1 (some .boolean) d_X4_undo (env 52)) (hd_X4_undo : d_X4_undo + 1 ≤ d) {d_X5_undo : Nat} (h_X5_undo : CM l SH E yX5_undo cX5_undo 2 (some .boolean) d_X5_undo (env 71)) (hd_X5_undo : d_X5_undo + 1 ≤ d) : ∀ q ∈ T_L_law_15 E env, SS p l e R s m args below meth c cells slots Q D C A ad SH 4 cL_law (some .boolean) q.1 q.2 := by
  unfold T_L_law_15
  refine List.forall_mem_cons.mpr ⟨s_iconst (pc := 882) X (n := 0) (by decide +kernel) (by decide), ?_⟩
  refine List.forall_mem_cons.mpr ⟨s_retZ (pc := 883) (by decide +kernel), ?_⟩
  refine List.forall_mem_cons.mpr ⟨s_aload_n (pc := 884) X (i := 1) (by decide +kernel) rfl, ?_⟩
  refine List.forall_mem_cons.mpr ⟨s_callV (pc := 885) X (idx := 117) (by decide +kernel) h_X4_undo rfl lk_RL_117 ls_X4_undo lz_X4_undo li_RX4 lc_X4_undo hv_X4_undo ⟨Nat.le_trans hd_X4_undo hR.1, Nat.le_trans (by have := hd_X4_undo; omega) hR.2⟩ hcs, ?_⟩
  refine List.forall_mem_cons.mpr ⟨s_aload_n (pc := 888) X (i := 2) (by decide +kernel) rfl, ?_⟩
  refine List.forall_mem_cons.mpr ⟨s_callV (pc := 889) X (idx := 121) (by decide +kernel) h_X5_undo rfl lk_RL_121 ls_X5_undo lz_X5_undo li_RX5 lc_X5_undo hv_X5_undo ⟨Nat.le_trans hd_X5_undo hR.1, Nat.le_trans (by have := hd_X5_undo; omega) hR.2⟩ hcs, ?_⟩
  refine List.forall_mem_cons.mpr ⟨s_eq (pc := 892) X (off := 5) (by decide +kernel) (by decide), ?_⟩
  refine List.forall_mem_cons.mpr ⟨s_iconst (pc := 895) X (n := 0) (by decide +kernel) (by decide), ?_⟩
  refine List.forall_mem_cons.mpr ⟨s_retZ (pc := 896) (by decide +kernel), ?_⟩
  refine List.forall_mem_cons.mpr ⟨s_iinc (pc := 897) X (n := 8) (by decide +kernel) (by decide) (by decide), ?_⟩
  refine List.forall_mem_cons.mpr ⟨s_goto (pc := 900) X (off := -882) (by decide +kernel) (by decide), ?_⟩
  refine List.forall_mem_cons.mpr ⟨s_iconst (pc := 903) X (n := 1) (by decide +kernel) (by decide), ?_⟩
  refine List.forall_mem_cons.mpr ⟨s_retZ (pc := 904) (by decide +kernel), ?_⟩
  exact fun _ h => absurd h List.not_mem_nil
def T_L_law (E : Ex) (env : Nat → Mf) : List (Nat × Stq) := T_L_law_0 E env ++ (T_L_law_1 E env ++ (T_L_law_2 E env ++ (T_L_law_3 E env ++ (T_L_law_4 E env ++ (T_L_law_5 E env ++ (T_L_law_6 E env ++ (T_L_law_7 E env ++ (T_L_law_8 E env ++ (T_L_law_9 E env ++ (T_L_law_10 E env ++ (T_L_law_11 E env ++ (T_L_law_12 E env ++ (T_L_law_13 E env ++ (T_L_law_14 E env ++ (T_L_law_15 E env)))))))))))))))
theorem ts_L_law {p : Program} {l : Launch} {e : Env} {R : Room} {s : State} {m : MethodId} {args : Array Value} {below : List Frame} {meth : Method} {c : Code} {cells slots : Nat} {Q : State → Prop} {D : va_G} {C : CI3} {A : Nat → Prop} {ad : Nat → Nat} {E : Ex} {env : Nat → Mf} {d : Nat} (X : Cx p R s m args c cL_law 4 RL D C A ad SH E) (hR : d ≤ R.frames ∧ 100 * d ≤ R.locals) (hcs : cells ≤ R.cells ∧ slots ≤ R.slots) {d_X4_table : Nat} (h_X4_table : CM l SH E yX4_table cX4_table 2 (some .boolean) d_X4_table (env 28)) (hd_X4_table : d_X4_table + 1 ≤ d) {d_X5_table : Nat} (h_X5_table : CM l SH E yX5_table cX5_table 3 (some .boolean) d_X5_table (env 72)) (hd_X5_table : d_X5_table + 1 ≤ d) {d_X4_put : Nat} (h_X4_put : CM l SH E yX4_put cX4_put 8 (some .boolean) d_X4_put (env 29)) (hd_X4_put : d_X4_put + 1 ≤ d) {d_X5_put : Nat} (h_X5_put : CM l SH E yX5_put cX5_put 11 (some .boolean) d_X5_put (env 74)) (hd_X5_put : d_X5_put + 1 ≤ d) {d_X4_change : Nat} (h_X4_change : CM l SH E yX4_change cX4_change 4 (some .boolean) d_X4_change (env 30)) (hd_X4_change : d_X4_change + 1 ≤ d) {d_X5_change : Nat} (h_X5_change : CM l SH E yX5_change cX5_change 4 (some .boolean) d_X5_change (env 75)) (hd_X5_change : d_X5_change + 1 ≤ d) {d_X4_strike : Nat} (h_X4_strike : CM l SH E yX4_strike cX4_strike 2 (some .boolean) d_X4_strike (env 31)) (hd_X4_strike : d_X4_strike + 1 ≤ d) {d_X5_strike : Nat} (h_X5_strike : CM l SH E yX5_strike cX5_strike 2 (some .boolean) d_X5_strike (env 76)) (hd_X5_strike : d_X5_strike + 1 ≤ d) {d_X4_price : Nat} (h_X4_price : CM l SH E yX4_price cX4_price 3 (some .boolean) d_X4_price (env 32)) (hd_X4_price : d_X4_price + 1 ≤ d) {d_X5_price : Nat} (h_X5_price : CM l SH E yX5_price cX5_price 3 (some .boolean) d_X5_price (env 77)) (hd_X5_price : d_X5_price + 1 ≤ d) {d_X4_swap : Nat} (h_X4_swap : CM l SH E yX4_swap cX4_swap 3 (some .boolean) d_X4_swap (env 33)) (hd_X4_swap : d_X4_swap + 1 ≤ d) {d_X5_swap : Nat} (h_X5_swap : CM l SH E yX5_swap cX5_swap 5 (some .boolean) d_X5_swap (env 78)) (hd_X5_swap : d_X5_swap + 1 ≤ d) {d_X4_at : Nat} (h_X4_at : CM l SH E yX4_at cX4_at 3 (some .int) d_X4_at (env 34)) (hd_X4_at : d_X4_at + 1 ≤ d) {d_X5_at : Nat} (h_X5_at : CM l SH E yX5_at cX5_at 3 (some .int) d_X5_at (env 79)) (hd_X5_at : d_X5_at + 1 ≤ d) {d_X4_row : Nat} (h_X4_row : CM l SH E yX4_row cX4_row 3 (some .int) d_X4_row (env 35)) (hd_X4_row : d_X4_row + 1 ≤ d) {d_X5_row : Nat} (h_X5_row : CM l SH E yX5_row cX5_row 3 (some .int) d_X5_row (env 80)) (hd_X5_row : d_X5_row + 1 ≤ d) {d_X4_between : Nat} (h_X4_between : CM l SH E yX4_between cX4_between 3 (some .int) d_X4_between (env 36)) (hd_X4_between : d_X4_between + 1 ≤ d) {d_X5_between : Nat} (h_X5_between : CM l SH E yX5_between cX5_between 3 (some .int) d_X5_between (env 85)) (hd_X5_between : d_X5_between + 1 ≤ d) {d_X4_pairs : Nat} (h_X4_pairs : CM l SH E yX4_pairs cX4_pairs 2 (some .int) d_X4_pairs (env 37)) (hd_X4_pairs : d_X4_pairs + 1 ≤ d) {d_X5_pairs : Nat} (h_X5_pairs : CM l SH E yX5_pairs cX5_pairs 3 (some .int) d_X5_pairs (env 88)) (hd_X5_pairs : d_X5_pairs + 1 ≤ d) {d_X4_kinds : Nat} (h_X4_kinds : CM l SH E yX4_kinds cX4_kinds 1 (some .int) d_X4_kinds (env 38)) (hd_X4_kinds : d_X4_kinds + 1 ≤ d) {d_X5_kinds : Nat} (h_X5_kinds : CM l SH E yX5_kinds cX5_kinds 3 (some .int) d_X5_kinds (env 89)) (hd_X5_kinds : d_X5_kinds + 1 ≤ d) {d_X4_broken : Nat} (h_X4_broken : CM l SH E yX4_broken cX4_broken 2 (some .int) d_X4_broken (env 39)) (hd_X4_broken : d_X4_broken + 1 ≤ d) {d_X5_broken : Nat} (h_X5_broken : CM l SH E yX5_broken cX5_broken 2 (some .int) d_X5_broken (env 97)) (hd_X5_broken : d_X5_broken + 1 ≤ d) {d_X4_breaker : Nat} (h_X4_breaker : CM l SH E yX4_breaker cX4_breaker 7 (some .int) d_X4_breaker (env 40)) (hd_X4_breaker : d_X4_breaker + 1 ≤ d) {d_X5_breaker : Nat} (h_X5_breaker : CM l SH E yX5_breaker cX5_breaker 7 (some .int) d_X5_breaker (env 98)) (hd_X5_breaker : d_X5_breaker + 1 ≤ d) {d_X4_laws : Nat} (h_X4_laws : CM l SH E yX4_laws cX4_laws 5 (some .int) d_X4_laws (env 41)) (hd_X4_laws : d_X4_laws + 1 ≤ d) {d_X5_laws : Nat} (h_X5_laws : CM l SH E yX5_laws cX5_laws 3 (some .int) d_X5_laws (env 104)) (hd_X5_laws : d_X5_laws + 1 ≤ d) {d_X4_law : Nat} (h_X4_law : CM l SH E yX4_law cX4_law 6 (some .int) d_X4_law (env 42)) (hd_X4_law : d_X4_law + 1 ≤ d) {d_X5_law : Nat} (h_X5_law : CM l SH E yX5_law cX5_law 4 (some .int) d_X5_law (env 105)) (hd_X5_law : d_X5_law + 1 ≤ d) {d_X4_sort : Nat} (h_X4_sort : CM l SH E yX4_sort cX4_sort 6 (some .int) d_X4_sort (env 43)) (hd_X4_sort : d_X4_sort + 1 ≤ d) {d_X5_sort : Nat} (h_X5_sort : CM l SH E yX5_sort cX5_sort 7 (some .int) d_X5_sort (env 106)) (hd_X5_sort : d_X5_sort + 1 ≤ d) {d_X4_least : Nat} (h_X4_least : CM l SH E yX4_least cX4_least 2 (some .int) d_X4_least (env 44)) (hd_X4_least : d_X4_least + 1 ≤ d) {d_X5_least : Nat} (h_X5_least : CM l SH E yX5_least cX5_least 2 (some .int) d_X5_least (env 93)) (hd_X5_least : d_X5_least + 1 ≤ d) {d_X4_said : Nat} (h_X4_said : CM l SH E yX4_said cX4_said 3 (some .int) d_X4_said (env 45)) (hd_X4_said : d_X4_said + 1 ≤ d) {d_X5_said : Nat} (h_X5_said : CM l SH E yX5_said cX5_said 3 (some .int) d_X5_said (env 101)) (hd_X5_said : d_X5_said + 1 ≤ d) {d_X4_settles : Nat} (h_X4_settles : CM l SH E yX4_settles cX4_settles 4 (some .int) d_X4_settles (env 46)) (hd_X4_settles : d_X4_settles + 1 ≤ d) {d_X5_settles : Nat} (h_X5_settles : CM l SH E yX5_settles cX5_settles 6 (some .int) d_X5_settles (env 109)) (hd_X5_settles : d_X5_settles + 1 ≤ d) {d_X4_keys : Nat} (h_X4_keys : CM l SH E yX4_keys cX4_keys 3 (some .int) d_X4_keys (env 47)) (hd_X4_keys : d_X4_keys + 1 ≤ d) {d_X5_keys : Nat} (h_X5_keys : CM l SH E yX5_keys cX5_keys 3 (some .int) d_X5_keys (env 112)) (hd_X5_keys : d_X5_keys + 1 ≤ d) {d_X4_key : Nat} (h_X4_key : CM l SH E yX4_key cX4_key 4 (some .int) d_X4_key (env 48)) (hd_X4_key : d_X4_key + 1 ≤ d) {d_X5_key : Nat} (h_X5_key : CM l SH E yX5_key cX5_key 4 (some .int) d_X5_key (env 113)) (hd_X5_key : d_X5_key + 1 ≤ d) {d_X4_tell : Nat} (h_X4_tell : CM l SH E yX4_tell cX4_tell 3 (some .boolean) d_X4_tell (env 49)) (hd_X4_tell : d_X4_tell + 1 ≤ d) {d_X5_tell : Nat} (h_X5_tell : CM l SH E yX5_tell cX5_tell 3 (some .boolean) d_X5_tell (env 114)) (hd_X5_tell : d_X5_tell + 1 ≤ d) {d_X4_told : Nat} (h_X4_told : CM l SH E yX4_told cX4_told 2 (some .int) d_X4_told (env 50)) (hd_X4_told : d_X4_told + 1 ≤ d) {d_X5_told : Nat} (h_X5_told : CM l SH E yX5_told cX5_told 2 (some .int) d_X5_told (env 115)) (hd_X5_told : d_X5_told + 1 ≤ d) {d_X4_mend : Nat} (h_X4_mend : CM l SH E yX4_mend cX4_mend 2 (some .int) d_X4_mend (env 51)) (hd_X4_mend : d_X4_mend + 1 ≤ d) {d_X5_mend : Nat} (h_X5_mend : CM l SH E yX5_mend cX5_mend 10 (some .int) d_X5_mend (env 117)) (hd_X5_mend : d_X5_mend + 1 ≤ d) {d_X4_undo : Nat} (h_X4_undo : CM l SH E yX4_undo cX4_undo 1 (some .boolean) d_X4_undo (env 52)) (hd_X4_undo : d_X4_undo + 1 ≤ d) {d_X5_undo : Nat} (h_X5_undo : CM l SH E yX5_undo cX5_undo 2 (some .boolean) d_X5_undo (env 71)) (hd_X5_undo : d_X5_undo + 1 ≤ d) : ∀ q ∈ T_L_law E env, SS p l e R s m args below meth c cells slots Q D C A ad SH 4 cL_law (some .boolean) q.1 q.2 := List.forall_mem_append.mpr ⟨ts_L_law_0 X hR hcs h_X4_table hd_X4_table h_X5_table hd_X5_table h_X4_put hd_X4_put h_X5_put hd_X5_put h_X4_change hd_X4_change h_X5_change hd_X5_change h_X4_strike hd_X4_strike h_X5_strike hd_X5_strike h_X4_price hd_X4_price h_X5_price hd_X5_price h_X4_swap hd_X4_swap h_X5_swap hd_X5_swap h_X4_at hd_X4_at h_X5_at hd_X5_at h_X4_row hd_X4_row h_X5_row hd_X5_row h_X4_between hd_X4_between h_X5_between hd_X5_between h_X4_pairs hd_X4_pairs h_X5_pairs hd_X5_pairs h_X4_kinds hd_X4_kinds h_X5_kinds hd_X5_kinds h_X4_broken hd_X4_broken h_X5_broken hd_X5_broken h_X4_breaker hd_X4_breaker h_X5_breaker hd_X5_breaker h_X4_laws hd_X4_laws h_X5_laws hd_X5_laws h_X4_law hd_X4_law h_X5_law hd_X5_law h_X4_sort hd_X4_sort h_X5_sort hd_X5_sort h_X4_least hd_X4_least h_X5_least hd_X5_least h_X4_said hd_X4_said h_X5_said hd_X5_said h_X4_settles hd_X4_settles h_X5_settles hd_X5_settles h_X4_keys hd_X4_keys h_X5_keys hd_X5_keys h_X4_key hd_X4_key h_X5_key hd_X5_key h_X4_tell hd_X4_tell h_X5_tell hd_X5_tell h_X4_told hd_X4_told h_X5_told hd_X5_told h_X4_mend hd_X4_mend h_X5_mend hd_X5_mend h_X4_undo hd_X4_undo h_X5_undo hd_X5_undo, List.forall_mem_append.mpr ⟨ts_L_law_1 X hR hcs h_X4_table hd_X4_table h_X5_table hd_X5_table h_X4_put hd_X4_put h_X5_put hd_X5_put h_X4_change hd_X4_change h_X5_change hd_X5_change h_X4_strike hd_X4_strike h_X5_strike hd_X5_strike h_X4_price hd_X4_price h_X5_price hd_X5_price h_X4_swap hd_X4_swap h_X5_swap hd_X5_swap h_X4_at hd_X4_at h_X5_at hd_X5_at h_X4_row hd_X4_row h_X5_row hd_X5_row h_X4_between hd_X4_between h_X5_between hd_X5_between h_X4_pairs hd_X4_pairs h_X5_pairs hd_X5_pairs h_X4_kinds hd_X4_kinds h_X5_kinds hd_X5_kinds h_X4_broken hd_X4_broken h_X5_broken hd_X5_broken h_X4_breaker hd_X4_breaker h_X5_breaker hd_X5_breaker h_X4_laws hd_X4_laws h_X5_laws hd_X5_laws h_X4_law hd_X4_law h_X5_law hd_X5_law h_X4_sort hd_X4_sort h_X5_sort hd_X5_sort h_X4_least hd_X4_least h_X5_least hd_X5_least h_X4_said hd_X4_said h_X5_said hd_X5_said h_X4_settles hd_X4_settles h_X5_settles hd_X5_settles h_X4_keys hd_X4_keys h_X5_keys hd_X5_keys h_X4_key hd_X4_key h_X5_key hd_X5_key h_X4_tell hd_X4_tell h_X5_tell hd_X5_tell h_X4_told hd_X4_told h_X5_told hd_X5_told h_X4_mend hd_X4_mend h_X5_mend hd_X5_mend h_X4_undo hd_X4_undo h_X5_undo hd_X5_undo, List.forall_mem_append.mpr ⟨ts_L_law_2 X hR hcs h_X4_table hd_X4_table h_X5_table hd_X5_table h_X4_put hd_X4_put h_X5_put hd_X5_put h_X4_change hd_X4_change h_X5_change hd_X5_change h_X4_strike hd_X4_strike h_X5_strike hd_X5_strike h_X4_price hd_X4_price h_X5_price hd_X5_price h_X4_swap hd_X4_swap h_X5_swap hd_X5_swap h_X4_at hd_X4_at h_X5_at hd_X5_at h_X4_row hd_X4_row h_X5_row hd_X5_row h_X4_between hd_X4_between h_X5_between hd_X5_between h_X4_pairs hd_X4_pairs h_X5_pairs hd_X5_pairs h_X4_kinds hd_X4_kinds h_X5_kinds hd_X5_kinds h_X4_broken hd_X4_broken h_X5_broken hd_X5_broken h_X4_breaker hd_X4_breaker h_X5_breaker hd_X5_breaker h_X4_laws hd_X4_laws h_X5_laws hd_X5_laws h_X4_law hd_X4_law h_X5_law hd_X5_law h_X4_sort hd_X4_sort h_X5_sort hd_X5_sort h_X4_least hd_X4_least h_X5_least hd_X5_least h_X4_said hd_X4_said h_X5_said hd_X5_said h_X4_settles hd_X4_settles h_X5_settles hd_X5_settles h_X4_keys hd_X4_keys h_X5_keys hd_X5_keys h_X4_key hd_X4_key h_X5_key hd_X5_key h_X4_tell hd_X4_tell h_X5_tell hd_X5_tell h_X4_told hd_X4_told h_X5_told hd_X5_told h_X4_mend hd_X4_mend h_X5_mend hd_X5_mend h_X4_undo hd_X4_undo h_X5_undo hd_X5_undo, List.forall_mem_append.mpr ⟨ts_L_law_3 X hR hcs h_X4_table hd_X4_table h_X5_table hd_X5_table h_X4_put hd_X4_put h_X5_put hd_X5_put h_X4_change hd_X4_change h_X5_change hd_X5_change h_X4_strike hd_X4_strike h_X5_strike hd_X5_strike h_X4_price hd_X4_price h_X5_price hd_X5_price h_X4_swap hd_X4_swap h_X5_swap hd_X5_swap h_X4_at hd_X4_at h_X5_at hd_X5_at h_X4_row hd_X4_row h_X5_row hd_X5_row h_X4_between hd_X4_between h_X5_between hd_X5_between h_X4_pairs hd_X4_pairs h_X5_pairs hd_X5_pairs h_X4_kinds hd_X4_kinds h_X5_kinds hd_X5_kinds h_X4_broken hd_X4_broken h_X5_broken hd_X5_broken h_X4_breaker hd_X4_breaker h_X5_breaker hd_X5_breaker h_X4_laws hd_X4_laws h_X5_laws hd_X5_laws h_X4_law hd_X4_law h_X5_law hd_X5_law h_X4_sort hd_X4_sort h_X5_sort hd_X5_sort h_X4_least hd_X4_least h_X5_least hd_X5_least h_X4_said hd_X4_said h_X5_said hd_X5_said h_X4_settles hd_X4_settles h_X5_settles hd_X5_settles h_X4_keys hd_X4_keys h_X5_keys hd_X5_keys h_X4_key hd_X4_key h_X5_key hd_X5_key h_X4_tell hd_X4_tell h_X5_tell hd_X5_tell h_X4_told hd_X4_told h_X5_told hd_X5_told h_X4_mend hd_X4_mend h_X5_mend hd_X5_mend h_X4_undo hd_X4_undo h_X5_undo hd_X5_undo, List.forall_mem_append.mpr ⟨ts_L_law_4 X hR hcs h_X4_table hd_X4_table h_X5_table hd_X5_table h_X4_put hd_X4_put h_X5_put hd_X5_put h_X4_change hd_X4_change h_X5_change hd_X5_change h_X4_strike hd_X4_strike h_X5_strike hd_X5_strike h_X4_price hd_X4_price h_X5_price hd_X5_price h_X4_swap hd_X4_swap h_X5_swap hd_X5_swap h_X4_at hd_X4_at h_X5_at hd_X5_at h_X4_row hd_X4_row h_X5_row hd_X5_row h_X4_between hd_X4_between h_X5_between hd_X5_between h_X4_pairs hd_X4_pairs h_X5_pairs hd_X5_pairs h_X4_kinds hd_X4_kinds h_X5_kinds hd_X5_kinds h_X4_broken hd_X4_broken h_X5_broken hd_X5_broken h_X4_breaker hd_X4_breaker h_X5_breaker hd_X5_breaker h_X4_laws hd_X4_laws h_X5_laws hd_X5_laws h_X4_law hd_X4_law h_X5_law hd_X5_law h_X4_sort hd_X4_sort h_X5_sort hd_X5_sort h_X4_least hd_X4_least h_X5_least hd_X5_least h_X4_said hd_X4_said h_X5_said hd_X5_said h_X4_settles hd_X4_settles h_X5_settles hd_X5_settles h_X4_keys hd_X4_keys h_X5_keys hd_X5_keys h_X4_key hd_X4_key h_X5_key hd_X5_key h_X4_tell hd_X4_tell h_X5_tell hd_X5_tell h_X4_told hd_X4_told h_X5_told hd_X5_told h_X4_mend hd_X4_mend h_X5_mend hd_X5_mend h_X4_undo hd_X4_undo h_X5_undo hd_X5_undo, List.forall_mem_append.mpr ⟨ts_L_law_5 X hR hcs h_X4_table hd_X4_table h_X5_table hd_X5_table h_X4_put hd_X4_put h_X5_put hd_X5_put h_X4_change hd_X4_change h_X5_change hd_X5_change h_X4_strike hd_X4_strike h_X5_strike hd_X5_strike h_X4_price hd_X4_price h_X5_price hd_X5_price h_X4_swap hd_X4_swap h_X5_swap hd_X5_swap h_X4_at hd_X4_at h_X5_at hd_X5_at h_X4_row hd_X4_row h_X5_row hd_X5_row h_X4_between hd_X4_between h_X5_between hd_X5_between h_X4_pairs hd_X4_pairs h_X5_pairs hd_X5_pairs h_X4_kinds hd_X4_kinds h_X5_kinds hd_X5_kinds h_X4_broken hd_X4_broken h_X5_broken hd_X5_broken h_X4_breaker hd_X4_breaker h_X5_breaker hd_X5_breaker h_X4_laws hd_X4_laws h_X5_laws hd_X5_laws h_X4_law hd_X4_law h_X5_law hd_X5_law h_X4_sort hd_X4_sort h_X5_sort hd_X5_sort h_X4_least hd_X4_least h_X5_least hd_X5_least h_X4_said hd_X4_said h_X5_said hd_X5_said h_X4_settles hd_X4_settles h_X5_settles hd_X5_settles h_X4_keys hd_X4_keys h_X5_keys hd_X5_keys h_X4_key hd_X4_key h_X5_key hd_X5_key h_X4_tell hd_X4_tell h_X5_tell hd_X5_tell h_X4_told hd_X4_told h_X5_told hd_X5_told h_X4_mend hd_X4_mend h_X5_mend hd_X5_mend h_X4_undo hd_X4_undo h_X5_undo hd_X5_undo, List.forall_mem_append.mpr ⟨ts_L_law_6 X hR hcs h_X4_table hd_X4_table h_X5_table hd_X5_table h_X4_put hd_X4_put h_X5_put hd_X5_put h_X4_change hd_X4_change h_X5_change hd_X5_change h_X4_strike hd_X4_strike h_X5_strike hd_X5_strike h_X4_price hd_X4_price h_X5_price hd_X5_price h_X4_swap hd_X4_swap h_X5_swap hd_X5_swap h_X4_at hd_X4_at h_X5_at hd_X5_at h_X4_row hd_X4_row h_X5_row hd_X5_row h_X4_between hd_X4_between h_X5_between hd_X5_between h_X4_pairs hd_X4_pairs h_X5_pairs hd_X5_pairs h_X4_kinds hd_X4_kinds h_X5_kinds hd_X5_kinds h_X4_broken hd_X4_broken h_X5_broken hd_X5_broken h_X4_breaker hd_X4_breaker h_X5_breaker hd_X5_breaker h_X4_laws hd_X4_laws h_X5_laws hd_X5_laws h_X4_law hd_X4_law h_X5_law hd_X5_law h_X4_sort hd_X4_sort h_X5_sort hd_X5_sort h_X4_least hd_X4_least h_X5_least hd_X5_least h_X4_said hd_X4_said h_X5_said hd_X5_said h_X4_settles hd_X4_settles h_X5_settles hd_X5_settles h_X4_keys hd_X4_keys h_X5_keys hd_X5_keys h_X4_key hd_X4_key h_X5_key hd_X5_key h_X4_tell hd_X4_tell h_X5_tell hd_X5_tell h_X4_told hd_X4_told h_X5_told hd_X5_told h_X4_mend hd_X4_mend h_X5_mend hd_X5_mend h_X4_undo hd_X4_undo h_X5_undo hd_X5_undo, List.forall_mem_append.mpr ⟨ts_L_law_7 X hR hcs h_X4_table hd_X4_table h_X5_table hd_X5_table h_X4_put hd_X4_put h_X5_put hd_X5_put h_X4_change hd_X4_change h_X5_change hd_X5_change h_X4_strike hd_X4_strike h_X5_strike hd_X5_strike h_X4_price hd_X4_price h_X5_price hd_X5_price h_X4_swap hd_X4_swap h_X5_swap hd_X5_swap h_X4_at hd_X4_at h_X5_at hd_X5_at h_X4_row hd_X4_row h_X5_row hd_X5_row h_X4_between hd_X4_between h_X5_between hd_X5_between h_X4_pairs hd_X4_pairs h_X5_pairs hd_X5_pairs h_X4_kinds hd_X4_kinds h_X5_kinds hd_X5_kinds h_X4_broken hd_X4_broken h_X5_broken hd_X5_broken h_X4_breaker hd_X4_breaker h_X5_breaker hd_X5_breaker h_X4_laws hd_X4_laws h_X5_laws hd_X5_laws h_X4_law hd_X4_law h_X5_law hd_X5_law h_X4_sort hd_X4_sort h_X5_sort hd_X5_sort h_X4_least hd_X4_least h_X5_least hd_X5_least h_X4_said hd_X4_said h_X5_said hd_X5_said h_X4_settles hd_X4_settles h_X5_settles hd_X5_settles h_X4_keys hd_X4_keys h_X5_keys hd_X5_keys h_X4_key hd_X4_key h_X5_key hd_X5_key h_X4_tell hd_X4_tell h_X5_tell hd_X5_tell h_X4_told hd_X4_told h_X5_told hd_X5_told h_X4_mend hd_X4_mend h_X5_mend hd_X5_mend h_X4_undo hd_X4_undo h_X5_undo hd_X5_undo, List.forall_mem_append.mpr ⟨ts_L_law_8 X hR hcs h_X4_table hd_X4_table h_X5_table hd_X5_table h_X4_put hd_X4_put h_X5_put hd_X5_put h_X4_change hd_X4_change h_X5_change hd_X5_change h_X4_strike hd_X4_strike h_X5_strike hd_X5_strike h_X4_price hd_X4_price h_X5_price hd_X5_price h_X4_swap hd_X4_swap h_X5_swap hd_X5_swap h_X4_at hd_X4_at h_X5_at hd_X5_at h_X4_row hd_X4_row h_X5_row hd_X5_row h_X4_between hd_X4_between h_X5_between hd_X5_between h_X4_pairs hd_X4_pairs h_X5_pairs hd_X5_pairs h_X4_kinds hd_X4_kinds h_X5_kinds hd_X5_kinds h_X4_broken hd_X4_broken h_X5_broken hd_X5_broken h_X4_breaker hd_X4_breaker h_X5_breaker hd_X5_breaker h_X4_laws hd_X4_laws h_X5_laws hd_X5_laws h_X4_law hd_X4_law h_X5_law hd_X5_law h_X4_sort hd_X4_sort h_X5_sort hd_X5_sort h_X4_least hd_X4_least h_X5_least hd_X5_least h_X4_said hd_X4_said h_X5_said hd_X5_said h_X4_settles hd_X4_settles h_X5_settles hd_X5_settles h_X4_keys hd_X4_keys h_X5_keys hd_X5_keys h_X4_key hd_X4_key h_X5_key hd_X5_key h_X4_tell hd_X4_tell h_X5_tell hd_X5_tell h_X4_told hd_X4_told h_X5_told hd_X5_told h_X4_mend hd_X4_mend h_X5_mend hd_X5_mend h_X4_undo hd_X4_undo h_X5_undo hd_X5_undo, List.forall_mem_append.mpr ⟨ts_L_law_9 X hR hcs h_X4_table hd_X4_table h_X5_table hd_X5_table h_X4_put hd_X4_put h_X5_put hd_X5_put h_X4_change hd_X4_change h_X5_change hd_X5_change h_X4_strike hd_X4_strike h_X5_strike hd_X5_strike h_X4_price hd_X4_price h_X5_price hd_X5_price h_X4_swap hd_X4_swap h_X5_swap hd_X5_swap h_X4_at hd_X4_at h_X5_at hd_X5_at h_X4_row hd_X4_row h_X5_row hd_X5_row h_X4_between hd_X4_between h_X5_between hd_X5_between h_X4_pairs hd_X4_pairs h_X5_pairs hd_X5_pairs h_X4_kinds hd_X4_kinds h_X5_kinds hd_X5_kinds h_X4_broken hd_X4_broken h_X5_broken hd_X5_broken h_X4_breaker hd_X4_breaker h_X5_breaker hd_X5_breaker h_X4_laws hd_X4_laws h_X5_laws hd_X5_laws h_X4_law hd_X4_law h_X5_law hd_X5_law h_X4_sort hd_X4_sort h_X5_sort hd_X5_sort h_X4_least hd_X4_least h_X5_least hd_X5_least h_X4_said hd_X4_said h_X5_said hd_X5_said h_X4_settles hd_X4_settles h_X5_settles hd_X5_settles h_X4_keys hd_X4_keys h_X5_keys hd_X5_keys h_X4_key hd_X4_key h_X5_key hd_X5_key h_X4_tell hd_X4_tell h_X5_tell hd_X5_tell h_X4_told hd_X4_told h_X5_told hd_X5_told h_X4_mend hd_X4_mend h_X5_mend hd_X5_mend h_X4_undo hd_X4_undo h_X5_undo hd_X5_undo, List.forall_mem_append.mpr ⟨ts_L_law_10 X hR hcs h_X4_table hd_X4_table h_X5_table hd_X5_table h_X4_put hd_X4_put h_X5_put hd_X5_put h_X4_change hd_X4_change h_X5_change hd_X5_change h_X4_strike hd_X4_strike h_X5_strike hd_X5_strike h_X4_price hd_X4_price h_X5_price hd_X5_price h_X4_swap hd_X4_swap h_X5_swap hd_X5_swap h_X4_at hd_X4_at h_X5_at hd_X5_at h_X4_row hd_X4_row h_X5_row hd_X5_row h_X4_between hd_X4_between h_X5_between hd_X5_between h_X4_pairs hd_X4_pairs h_X5_pairs hd_X5_pairs h_X4_kinds hd_X4_kinds h_X5_kinds hd_X5_kinds h_X4_broken hd_X4_broken h_X5_broken hd_X5_broken h_X4_breaker hd_X4_breaker h_X5_breaker hd_X5_breaker h_X4_laws hd_X4_laws h_X5_laws hd_X5_laws h_X4_law hd_X4_law h_X5_law hd_X5_law h_X4_sort hd_X4_sort h_X5_sort hd_X5_sort h_X4_least hd_X4_least h_X5_least hd_X5_least h_X4_said hd_X4_said h_X5_said hd_X5_said h_X4_settles hd_X4_settles h_X5_settles hd_X5_settles h_X4_keys hd_X4_keys h_X5_keys hd_X5_keys h_X4_key hd_X4_key h_X5_key hd_X5_key h_X4_tell hd_X4_tell h_X5_tell hd_X5_tell h_X4_told hd_X4_told h_X5_told hd_X5_told h_X4_mend hd_X4_mend h_X5_mend hd_X5_mend h_X4_undo hd_X4_undo h_X5_undo hd_X5_undo, List.forall_mem_append.mpr ⟨ts_L_law_11 X hR hcs h_X4_table hd_X4_table h_X5_table hd_X5_table h_X4_put hd_X4_put h_X5_put hd_X5_put h_X4_change hd_X4_change h_X5_change hd_X5_change h_X4_strike hd_X4_strike h_X5_strike hd_X5_strike h_X4_price hd_X4_price h_X5_price hd_X5_price h_X4_swap hd_X4_swap h_X5_swap hd_X5_swap h_X4_at hd_X4_at h_X5_at hd_X5_at h_X4_row hd_X4_row h_X5_row hd_X5_row h_X4_between hd_X4_between h_X5_between hd_X5_between h_X4_pairs hd_X4_pairs h_X5_pairs hd_X5_pairs h_X4_kinds hd_X4_kinds h_X5_kinds hd_X5_kinds h_X4_broken hd_X4_broken h_X5_broken hd_X5_broken h_X4_breaker hd_X4_breaker h_X5_breaker hd_X5_breaker h_X4_laws hd_X4_laws h_X5_laws hd_X5_laws h_X4_law hd_X4_law h_X5_law hd_X5_law h_X4_sort hd_X4_sort h_X5_sort hd_X5_sort h_X4_least hd_X4_least h_X5_least hd_X5_least h_X4_said hd_X4_said h_X5_said hd_X5_said h_X4_settles hd_X4_settles h_X5_settles hd_X5_settles h_X4_keys hd_X4_keys h_X5_keys hd_X5_keys h_X4_key hd_X4_key h_X5_key hd_X5_key h_X4_tell hd_X4_tell h_X5_tell hd_X5_tell h_X4_told hd_X4_told h_X5_told hd_X5_told h_X4_mend hd_X4_mend h_X5_mend hd_X5_mend h_X4_undo hd_X4_undo h_X5_undo hd_X5_undo, List.forall_mem_append.mpr ⟨ts_L_law_12 X hR hcs h_X4_table hd_X4_table h_X5_table hd_X5_table h_X4_put hd_X4_put h_X5_put hd_X5_put h_X4_change hd_X4_change h_X5_change hd_X5_change h_X4_strike hd_X4_strike h_X5_strike hd_X5_strike h_X4_price hd_X4_price h_X5_price hd_X5_price h_X4_swap hd_X4_swap h_X5_swap hd_X5_swap h_X4_at hd_X4_at h_X5_at hd_X5_at h_X4_row hd_X4_row h_X5_row hd_X5_row h_X4_between hd_X4_between h_X5_between hd_X5_between h_X4_pairs hd_X4_pairs h_X5_pairs hd_X5_pairs h_X4_kinds hd_X4_kinds h_X5_kinds hd_X5_kinds h_X4_broken hd_X4_broken h_X5_broken hd_X5_broken h_X4_breaker hd_X4_breaker h_X5_breaker hd_X5_breaker h_X4_laws hd_X4_laws h_X5_laws hd_X5_laws h_X4_law hd_X4_law h_X5_law hd_X5_law h_X4_sort hd_X4_sort h_X5_sort hd_X5_sort h_X4_least hd_X4_least h_X5_least hd_X5_least h_X4_said hd_X4_said h_X5_said hd_X5_said h_X4_settles hd_X4_settles h_X5_settles hd_X5_settles h_X4_keys hd_X4_keys h_X5_keys hd_X5_keys h_X4_key hd_X4_key h_X5_key hd_X5_key h_X4_tell hd_X4_tell h_X5_tell hd_X5_tell h_X4_told hd_X4_told h_X5_told hd_X5_told h_X4_mend hd_X4_mend h_X5_mend hd_X5_mend h_X4_undo hd_X4_undo h_X5_undo hd_X5_undo, List.forall_mem_append.mpr ⟨ts_L_law_13 X hR hcs h_X4_table hd_X4_table h_X5_table hd_X5_table h_X4_put hd_X4_put h_X5_put hd_X5_put h_X4_change hd_X4_change h_X5_change hd_X5_change h_X4_strike hd_X4_strike h_X5_strike hd_X5_strike h_X4_price hd_X4_price h_X5_price hd_X5_price h_X4_swap hd_X4_swap h_X5_swap hd_X5_swap h_X4_at hd_X4_at h_X5_at hd_X5_at h_X4_row hd_X4_row h_X5_row hd_X5_row h_X4_between hd_X4_between h_X5_between hd_X5_between h_X4_pairs hd_X4_pairs h_X5_pairs hd_X5_pairs h_X4_kinds hd_X4_kinds h_X5_kinds hd_X5_kinds h_X4_broken hd_X4_broken h_X5_broken hd_X5_broken h_X4_breaker hd_X4_breaker h_X5_breaker hd_X5_breaker h_X4_laws hd_X4_laws h_X5_laws hd_X5_laws h_X4_law hd_X4_law h_X5_law hd_X5_law h_X4_sort hd_X4_sort h_X5_sort hd_X5_sort h_X4_least hd_X4_least h_X5_least hd_X5_least h_X4_said hd_X4_said h_X5_said hd_X5_said h_X4_settles hd_X4_settles h_X5_settles hd_X5_settles h_X4_keys hd_X4_keys h_X5_keys hd_X5_keys h_X4_key hd_X4_key h_X5_key hd_X5_key h_X4_tell hd_X4_tell h_X5_tell hd_X5_tell h_X4_told hd_X4_told h_X5_told hd_X5_told h_X4_mend hd_X4_mend h_X5_mend hd_X5_mend h_X4_undo hd_X4_undo h_X5_undo hd_X5_undo, List.forall_mem_append.mpr ⟨ts_L_law_14 X hR hcs h_X4_table hd_X4_table h_X5_table hd_X5_table h_X4_put hd_X4_put h_X5_put hd_X5_put h_X4_change hd_X4_change h_X5_change hd_X5_change h_X4_strike hd_X4_strike h_X5_strike hd_X5_strike h_X4_price hd_X4_price h_X5_price hd_X5_price h_X4_swap hd_X4_swap h_X5_swap hd_X5_swap h_X4_at hd_X4_at h_X5_at hd_X5_at h_X4_row hd_X4_row h_X5_row hd_X5_row h_X4_between hd_X4_between h_X5_between hd_X5_between h_X4_pairs hd_X4_pairs h_X5_pairs hd_X5_pairs h_X4_kinds hd_X4_kinds h_X5_kinds hd_X5_kinds h_X4_broken hd_X4_broken h_X5_broken hd_X5_broken h_X4_breaker hd_X4_breaker h_X5_breaker hd_X5_breaker h_X4_laws hd_X4_laws h_X5_laws hd_X5_laws h_X4_law hd_X4_law h_X5_law hd_X5_law h_X4_sort hd_X4_sort h_X5_sort hd_X5_sort h_X4_least hd_X4_least h_X5_least hd_X5_least h_X4_said hd_X4_said h_X5_said hd_X5_said h_X4_settles hd_X4_settles h_X5_settles hd_X5_settles h_X4_keys hd_X4_keys h_X5_keys hd_X5_keys h_X4_key hd_X4_key h_X5_key hd_X5_key h_X4_tell hd_X4_tell h_X5_tell hd_X5_tell h_X4_told hd_X4_told h_X5_told hd_X5_told h_X4_mend hd_X4_mend h_X5_mend hd_X5_mend h_X4_undo hd_X4_undo h_X5_undo hd_X5_undo, ts_L_law_15 X hR hcs h_X4_table hd_X4_table h_X5_table hd_X5_table h_X4_put hd_X4_put h_X5_put hd_X5_put h_X4_change hd_X4_change h_X5_change hd_X5_change h_X4_strike hd_X4_strike h_X5_strike hd_X5_strike h_X4_price hd_X4_price h_X5_price hd_X5_price h_X4_swap hd_X4_swap h_X5_swap hd_X5_swap h_X4_at hd_X4_at h_X5_at hd_X5_at h_X4_row hd_X4_row h_X5_row hd_X5_row h_X4_between hd_X4_between h_X5_between hd_X5_between h_X4_pairs hd_X4_pairs h_X5_pairs hd_X5_pairs h_X4_kinds hd_X4_kinds h_X5_kinds hd_X5_kinds h_X4_broken hd_X4_broken h_X5_broken hd_X5_broken h_X4_breaker hd_X4_breaker h_X5_breaker hd_X5_breaker h_X4_laws hd_X4_laws h_X5_laws hd_X5_laws h_X4_law hd_X4_law h_X5_law hd_X5_law h_X4_sort hd_X4_sort h_X5_sort hd_X5_sort h_X4_least hd_X4_least h_X5_least hd_X5_least h_X4_said hd_X4_said h_X5_said hd_X5_said h_X4_settles hd_X4_settles h_X5_settles hd_X5_settles h_X4_keys hd_X4_keys h_X5_keys hd_X5_keys h_X4_key hd_X4_key h_X5_key hd_X5_key h_X4_tell hd_X4_tell h_X5_tell hd_X5_tell h_X4_told hd_X4_told h_X5_told hd_X5_told h_X4_mend hd_X4_mend h_X5_mend hd_X5_mend h_X4_undo hd_X4_undo h_X5_undo hd_X5_undo⟩⟩⟩⟩⟩⟩⟩⟩⟩⟩⟩⟩⟩⟩⟩
