/-! SHAPE AND LINKS -/
def SH : Shp := [(3, 4, [some 1, some 7, some 45, some 48, none, none]),
  (3, 2, [none, some 2, some 3, some 4, some 5, some 6]),
  (0, 16, []),
  (0, 16, []),
  (0, 16, []),
  (0, 64, []),
  (0, 4, []),
  (3, 0, [some 8, none, none]),
  (2, 0, [some 9, some 15, some 21, some 27, some 33, some 39]),
  (3, 2, [none, some 10, some 11, some 12, some 13, some 14]),
  (0, 16, []),
  (0, 16, []),
  (0, 16, []),
  (0, 64, []),
  (0, 4, []),
  (3, 2, [none, some 16, some 17, some 18, some 19, some 20]),
  (0, 16, []),
  (0, 16, []),
  (0, 16, []),
  (0, 64, []),
  (0, 4, []),
  (3, 2, [none, some 22, some 23, some 24, some 25, some 26]),
  (0, 16, []),
  (0, 16, []),
  (0, 16, []),
  (0, 64, []),
  (0, 4, []),
  (3, 2, [none, some 28, some 29, some 30, some 31, some 32]),
  (0, 16, []),
  (0, 16, []),
  (0, 16, []),
  (0, 64, []),
  (0, 4, []),
  (3, 2, [none, some 34, some 35, some 36, some 37, some 38]),
  (0, 16, []),
  (0, 16, []),
  (0, 16, []),
  (0, 64, []),
  (0, 4, []),
  (3, 2, [none, some 40, some 41, some 42, some 43, some 44]),
  (0, 16, []),
  (0, 16, []),
  (0, 16, []),
  (0, 64, []),
  (0, 4, []),
  (3, 3, [some 46, some 47]),
  (0, 625, []),
  (0, 625, []),
  (3, 1, [some 49, some 50, none, none]),
  (0, 16, []),
  (0, 16, []),
  (3, 5, [some 52, some 53, none, some 54, some 55, some 56, none, some 57]),
  (0, 133, []),
  (0, 798, []),
  (0, 625, []),
  (1, 625, []),
  (0, 625, []),
  (0, 16, [])]
set_option maxRecDepth 100000 in
theorem inTX0 : ∀ w ∈ u_ws RX0 TX0 3, w ∈ TB := by decide +kernel
set_option maxRecDepth 100000 in
theorem inTX1 : ∀ w ∈ u_ws RX1 TX1 4, w ∈ TB := by decide +kernel
set_option maxRecDepth 100000 in
theorem inTX2 : ∀ w ∈ u_ws RX2 TX2 6, w ∈ TB := by decide +kernel
set_option maxRecDepth 100000 in
theorem inTX3 : ∀ w ∈ u_ws RX3 TX3 2, w ∈ TB := by decide +kernel
set_option maxRecDepth 100000 in
theorem inTX4 : ∀ w ∈ u_ws RX4 TX4 6, w ∈ TB := by decide +kernel
set_option maxRecDepth 100000 in
theorem inTX5 : ∀ w ∈ u_ws RX5 TX5 8, w ∈ TB := by decide +kernel
set_option maxRecDepth 100000 in
theorem lc_J6_bitCount_0f7a4 : Cond.code yJ6_bitCount_0f7a4 cJ6_bitCount_0f7a4 1 (some .int) ∈ TB := inTB 417 (by rfl) (by rfl)
set_option maxRecDepth 100000 in
theorem lc_J7_fill_53178 : Cond.code yJ7_fill_53178 cJ7_fill_53178 4 (none) ∈ TB := inTB 56 (by rfl) (by rfl)
set_option maxRecDepth 100000 in
theorem lc_X0_giveBack : Cond.code yX0_giveBack cX0_giveBack 2 (some .boolean) ∈ TB := inTB 440 (by rfl) (by rfl)
set_option maxRecDepth 100000 in
theorem lc_X0_keep : Cond.code yX0_keep cX0_keep 2 (none) ∈ TB := inTB 169 (by rfl) (by rfl)
set_option maxRecDepth 100000 in
theorem lc_X1_breaksOne : Cond.code yX1_breaksOne cX1_breaksOne 4 (some .boolean) ∈ TB := inTB 406 (by rfl) (by rfl)
set_option maxRecDepth 100000 in
theorem lc_X1_busiest : Cond.code yX1_busiest cX1_busiest 6 (some .int) ∈ TB := inTB 414 (by rfl) (by rfl)
set_option maxRecDepth 100000 in
theorem lc_X1_cost : Cond.code yX1_cost cX1_cost 1 (some .int) ∈ TB := inTB 428 (by rfl) (by rfl)
set_option maxRecDepth 100000 in
theorem lc_X1_lightestCover : Cond.code yX1_lightestCover cX1_lightestCover 10 (some .int) ∈ TB := inTB 411 (by rfl) (by rfl)
set_option maxRecDepth 100000 in
theorem lc_X1_seek : Cond.code yX1_seek cX1_seek 4 (none) ∈ TB := inTB 401 (by rfl) (by rfl)
set_option maxRecDepth 100000 in
theorem lc_X1_slots : Cond.code yX1_slots cX1_slots 1 (some .int) ∈ TB := inTB 432 (by rfl) (by rfl)
set_option maxRecDepth 100000 in
theorem lc_X1_weightOf : Cond.code yX1_weightOf cX1_weightOf 4 (some .int) ∈ TB := inTB 423 (by rfl) (by rfl)
set_option maxRecDepth 100000 in
theorem lc_X2_compared : Cond.code yX2_compared cX2_compared 5 (some .int) ∈ TB := inTB 259 (by rfl) (by rfl)
set_option maxRecDepth 100000 in
theorem lc_X2_copyFrom : Cond.code yX2_copyFrom cX2_copyFrom 2 (none) ∈ TB := inTB 173 (by rfl) (by rfl)
set_option maxRecDepth 100000 in
theorem lc_X2_empty : Cond.code yX2_empty cX2_empty 2 (none) ∈ TB := inTB 183 (by rfl) (by rfl)
set_option maxRecDepth 100000 in
theorem lc_X2_exchange : Cond.code yX2_exchange cX2_exchange 5 (none) ∈ TB := inTB 239 (by rfl) (by rfl)
set_option maxRecDepth 100000 in
theorem lc_X2_hasColumn : Cond.code yX2_hasColumn cX2_hasColumn 2 (some .boolean) ∈ TB := inTB 214 (by rfl) (by rfl)
set_option maxRecDepth 100000 in
theorem lc_X2_hasRow : Cond.code yX2_hasRow cX2_hasRow 2 (some .boolean) ∈ TB := inTB 209 (by rfl) (by rfl)
set_option maxRecDepth 100000 in
theorem lc_X2_pairBreaks : Cond.code yX2_pairBreaks cX2_pairBreaks 5 (some .boolean) ∈ TB := inTB 325 (by rfl) (by rfl)
set_option maxRecDepth 100000 in
theorem lc_X2_read : Cond.code yX2_read cX2_read 3 (some .int) ∈ TB := inTB 247 (by rfl) (by rfl)
set_option maxRecDepth 100000 in
theorem lc_X2_seat : Cond.code yX2_seat cX2_seat 4 (none) ∈ TB := inTB 197 (by rfl) (by rfl)
set_option maxRecDepth 100000 in
theorem lc_X2_shortest : Cond.code yX2_shortest cX2_shortest 3 (some .int) ∈ TB := inTB 230 (by rfl) (by rfl)
set_option maxRecDepth 100000 in
theorem lc_X2_word : Cond.code yX2_word cX2_word 2 (some .int) ∈ TB := inTB 265 (by rfl) (by rfl)
set_option maxRecDepth 100000 in
theorem lc_X2_write : Cond.code yX2_write cX2_write 4 (none) ∈ TB := inTB 201 (by rfl) (by rfl)
set_option maxRecDepth 100000 in
theorem lc_X3_halveEven : Cond.code yX3_halveEven cX3_halveEven 3 (none) ∈ TB := inTB 302 (by rfl) (by rfl)
set_option maxRecDepth 100000 in
theorem lc_X3_hasWiderNear : Cond.code yX3_hasWiderNear cX3_hasWiderNear 6 (some .boolean) ∈ TB := inTB 346 (by rfl) (by rfl)
set_option maxRecDepth 100000 in
theorem lc_X3_isFound : Cond.code yX3_isFound cX3_isFound 4 (some .boolean) ∈ TB := inTB 341 (by rfl) (by rfl)
set_option maxRecDepth 100000 in
theorem lc_X3_isLeastKey : Cond.code yX3_isLeastKey cX3_isLeastKey 3 (some .boolean) ∈ TB := inTB 380 (by rfl) (by rfl)
set_option maxRecDepth 100000 in
theorem lc_X3_recount : Cond.code yX3_recount cX3_recount 4 (none) ∈ TB := inTB 288 (by rfl) (by rfl)
set_option maxRecDepth 100000 in
theorem lc_X3_sumUp : Cond.code yX3_sumUp cX3_sumUp 6 (none) ∈ TB := inTB 297 (by rfl) (by rfl)
set_option maxRecDepth 100000 in
theorem lc_X3_unlikeSeen : Cond.code yX3_unlikeSeen cX3_unlikeSeen 3 (some .int) ∈ TB := inTB 313 (by rfl) (by rfl)
set_option maxRecDepth 100000 in
theorem lc_X4_alikeLaw : Cond.code yX4_alikeLaw cX4_alikeLaw 3 (some .int) ∈ TB := inTB 372 (by rfl) (by rfl)
set_option maxRecDepth 100000 in
theorem lc_X4_at : Cond.code yX4_at cX4_at 3 (some .int) ∈ TB := inTB 243 (by rfl) (by rfl)
set_option maxRecDepth 100000 in
theorem lc_X4_between : Cond.code yX4_between cX4_between 3 (some .int) ∈ TB := inTB 255 (by rfl) (by rfl)
set_option maxRecDepth 100000 in
theorem lc_X4_breaker : Cond.code yX4_breaker cX4_breaker 7 (some .int) ∈ TB := inTB 321 (by rfl) (by rfl)
set_option maxRecDepth 100000 in
theorem lc_X4_broken : Cond.code yX4_broken cX4_broken 2 (some .int) ∈ TB := inTB 317 (by rfl) (by rfl)
set_option maxRecDepth 100000 in
theorem lc_X4_canSeek : Cond.code yX4_canSeek cX4_canSeek 2 (some .boolean) ∈ TB := inTB 337 (by rfl) (by rfl)
set_option maxRecDepth 100000 in
theorem lc_X4_change : Cond.code yX4_change cX4_change 4 (some .boolean) ∈ TB := inTB 205 (by rfl) (by rfl)
set_option maxRecDepth 100000 in
theorem lc_X4_columnsOf : Cond.code yX4_columnsOf cX4_columnsOf 3 (some .int) ∈ TB := inTB 277 (by rfl) (by rfl)
set_option maxRecDepth 100000 in
theorem lc_X4_count : Cond.code yX4_count cX4_count 1 (none) ∈ TB := inTB 284 (by rfl) (by rfl)
set_option maxRecDepth 100000 in
theorem lc_X4_covers : Cond.code yX4_covers cX4_covers 5 (some .boolean) ∈ TB := inTB 329 (by rfl) (by rfl)
set_option maxRecDepth 100000 in
theorem lc_X4_digitOf : Cond.code yX4_digitOf cX4_digitOf 2 (some .int) ∈ TB := inTB 280 (by rfl) (by rfl)
set_option maxRecDepth 100000 in
theorem lc_X4_fits : Cond.code yX4_fits cX4_fits 2 (some .boolean) ∈ TB := inTB 193 (by rfl) (by rfl)
set_option maxRecDepth 100000 in
theorem lc_X4_isLaw : Cond.code yX4_isLaw cX4_isLaw 2 (some .boolean) ∈ TB := inTB 273 (by rfl) (by rfl)
set_option maxRecDepth 100000 in
theorem lc_X4_isSlot : Cond.code yX4_isSlot cX4_isSlot 1 (some .boolean) ∈ TB := inTB 190 (by rfl) (by rfl)
set_option maxRecDepth 100000 in
theorem lc_X4_key : Cond.code yX4_key cX4_key 4 (some .int) ∈ TB := inTB 385 (by rfl) (by rfl)
set_option maxRecDepth 100000 in
theorem lc_X4_keys : Cond.code yX4_keys cX4_keys 3 (some .int) ∈ TB := inTB 376 (by rfl) (by rfl)
set_option maxRecDepth 100000 in
theorem lc_X4_kinds : Cond.code yX4_kinds cX4_kinds 1 (some .int) ∈ TB := inTB 309 (by rfl) (by rfl)
set_option maxRecDepth 100000 in
theorem lc_X4_law : Cond.code yX4_law cX4_law 6 (some .int) ∈ TB := inTB 350 (by rfl) (by rfl)
set_option maxRecDepth 100000 in
theorem lc_X4_laws : Cond.code yX4_laws cX4_laws 5 (some .int) ∈ TB := inTB 334 (by rfl) (by rfl)
set_option maxRecDepth 100000 in
theorem lc_X4_least : Cond.code yX4_least cX4_least 2 (some .int) ∈ TB := inTB 358 (by rfl) (by rfl)
set_option maxRecDepth 100000 in
theorem lc_X4_mend : Cond.code yX4_mend cX4_mend 2 (some .int) ∈ TB := inTB 397 (by rfl) (by rfl)
set_option maxRecDepth 100000 in
theorem lc_X4_pairs : Cond.code yX4_pairs cX4_pairs 2 (some .int) ∈ TB := inTB 269 (by rfl) (by rfl)
set_option maxRecDepth 100000 in
theorem lc_X4_price : Cond.code yX4_price cX4_price 3 (some .boolean) ∈ TB := inTB 222 (by rfl) (by rfl)
set_option maxRecDepth 100000 in
theorem lc_X4_put : Cond.code yX4_put cX4_put 8 (some .boolean) ∈ TB := inTB 187 (by rfl) (by rfl)
set_option maxRecDepth 100000 in
theorem lc_X4_remember : Cond.code yX4_remember cX4_remember 1 (none) ∈ TB := inTB 165 (by rfl) (by rfl)
set_option maxRecDepth 100000 in
theorem lc_X4_row : Cond.code yX4_row cX4_row 3 (some .int) ∈ TB := inTB 251 (by rfl) (by rfl)
set_option maxRecDepth 100000 in
theorem lc_X4_said : Cond.code yX4_said cX4_said 3 (some .int) ∈ TB := inTB 364 (by rfl) (by rfl)
set_option maxRecDepth 100000 in
theorem lc_X4_settles : Cond.code yX4_settles cX4_settles 4 (some .int) ∈ TB := inTB 369 (by rfl) (by rfl)
set_option maxRecDepth 100000 in
theorem lc_X4_sort : Cond.code yX4_sort cX4_sort 6 (some .int) ∈ TB := inTB 354 (by rfl) (by rfl)
set_option maxRecDepth 100000 in
theorem lc_X4_strike : Cond.code yX4_strike cX4_strike 2 (some .boolean) ∈ TB := inTB 218 (by rfl) (by rfl)
set_option maxRecDepth 100000 in
theorem lc_X4_swap : Cond.code yX4_swap cX4_swap 3 (some .boolean) ∈ TB := inTB 226 (by rfl) (by rfl)
set_option maxRecDepth 100000 in
theorem lc_X4_table : Cond.code yX4_table cX4_table 2 (some .boolean) ∈ TB := inTB 161 (by rfl) (by rfl)
set_option maxRecDepth 100000 in
theorem lc_X4_tell : Cond.code yX4_tell cX4_tell 3 (some .boolean) ∈ TB := inTB 389 (by rfl) (by rfl)
set_option maxRecDepth 100000 in
theorem lc_X4_told : Cond.code yX4_told cX4_told 2 (some .int) ∈ TB := inTB 393 (by rfl) (by rfl)
set_option maxRecDepth 100000 in
theorem lc_X4_turnedOf : Cond.code yX4_turnedOf cX4_turnedOf 4 (some .int) ∈ TB := inTB 305 (by rfl) (by rfl)
set_option maxRecDepth 100000 in
theorem lc_X4_undo : Cond.code yX4_undo cX4_undo 1 (some .boolean) ∈ TB := inTB 436 (by rfl) (by rfl)
set_option maxRecDepth 100000 in
theorem lc_X5_alikeIn : Cond.code yX5_alikeIn cX5_alikeIn 5 (some .boolean) ∈ TB := inTB 650 (by rfl) (by rfl)
set_option maxRecDepth 100000 in
theorem lc_X5_at : Cond.code yX5_at cX5_at 3 (some .int) ∈ TB := inTB 534 (by rfl) (by rfl)
set_option maxRecDepth 100000 in
theorem lc_X5_between : Cond.code yX5_between cX5_between 3 (some .int) ∈ TB := inTB 542 (by rfl) (by rfl)
set_option maxRecDepth 100000 in
theorem lc_X5_between0 : Cond.code yX5_between0 cX5_between0 5 (some .int) ∈ TB := inTB 546 (by rfl) (by rfl)
set_option maxRecDepth 100000 in
theorem lc_X5_breaker : Cond.code yX5_breaker cX5_breaker 7 (some .int) ∈ TB := inTB 608 (by rfl) (by rfl)
set_option maxRecDepth 100000 in
theorem lc_X5_breaks : Cond.code yX5_breaks cX5_breaks 4 (some .boolean) ∈ TB := inTB 600 (by rfl) (by rfl)
set_option maxRecDepth 100000 in
theorem lc_X5_broken : Cond.code yX5_broken cX5_broken 2 (some .int) ∈ TB := inTB 592 (by rfl) (by rfl)
set_option maxRecDepth 100000 in
theorem lc_X5_broken0 : Cond.code yX5_broken0 cX5_broken0 5 (some .int) ∈ TB := inTB 596 (by rfl) (by rfl)
set_option maxRecDepth 100000 in
theorem lc_X5_change : Cond.code yX5_change cX5_change 4 (some .boolean) ∈ TB := inTB 502 (by rfl) (by rfl)
set_option maxRecDepth 100000 in
theorem lc_X5_columns : Cond.code yX5_columns cX5_columns 1 (some .int) ∈ TB := inTB 518 (by rfl) (by rfl)
set_option maxRecDepth 100000 in
theorem lc_X5_conflicts : Cond.code yX5_conflicts cX5_conflicts 6 (some .int) ∈ TB := inTB 682 (by rfl) (by rfl)
set_option maxRecDepth 100000 in
theorem lc_X5_counts : Cond.code yX5_counts cX5_counts 3 (none) ∈ TB := inTB 568 (by rfl) (by rfl)
set_option maxRecDepth 100000 in
theorem lc_X5_digit : Cond.code yX5_digit cX5_digit 2 (some .int) ∈ TB := inTB 564 (by rfl) (by rfl)
set_option maxRecDepth 100000 in
theorem lc_X5_finds : Cond.code yX5_finds cX5_finds 6 (some .boolean) ∈ TB := inTB 627 (by rfl) (by rfl)
set_option maxRecDepth 100000 in
theorem lc_X5_get : Cond.code yX5_get cX5_get 3 (some .int) ∈ TB := inTB 510 (by rfl) (by rfl)
set_option maxRecDepth 100000 in
theorem lc_X5_isColumn : Cond.code yX5_isColumn cX5_isColumn 2 (some .boolean) ∈ TB := inTB 514 (by rfl) (by rfl)
set_option maxRecDepth 100000 in
theorem lc_X5_isIn : Cond.code yX5_isIn cX5_isIn 3 (some .boolean) ∈ TB := inTB 483 (by rfl) (by rfl)
set_option maxRecDepth 100000 in
theorem lc_X5_isKey : Cond.code yX5_isKey cX5_isKey 4 (some .boolean) ∈ TB := inTB 662 (by rfl) (by rfl)
set_option maxRecDepth 100000 in
theorem lc_X5_isLaw : Cond.code yX5_isLaw cX5_isLaw 2 (some .boolean) ∈ TB := inTB 580 (by rfl) (by rfl)
set_option maxRecDepth 100000 in
theorem lc_X5_isLeastKey : Cond.code yX5_isLeastKey cX5_isLeastKey 3 (some .boolean) ∈ TB := inTB 658 (by rfl) (by rfl)
set_option maxRecDepth 100000 in
theorem lc_X5_isNumber : Cond.code yX5_isNumber cX5_isNumber 2 (some .boolean) ∈ TB := inTB 494 (by rfl) (by rfl)
set_option maxRecDepth 100000 in
theorem lc_X5_isRow : Cond.code yX5_isRow cX5_isRow 2 (some .boolean) ∈ TB := inTB 506 (by rfl) (by rfl)
set_option maxRecDepth 100000 in
theorem lc_X5_isSaid : Cond.code yX5_isSaid cX5_isSaid 3 (some .boolean) ∈ TB := inTB 616 (by rfl) (by rfl)
set_option maxRecDepth 100000 in
theorem lc_X5_isSet : Cond.code yX5_isSet cX5_isSet 2 (some .boolean) ∈ TB := inTB 646 (by rfl) (by rfl)
set_option maxRecDepth 100000 in
theorem lc_X5_isSo : Cond.code yX5_isSo cX5_isSo 7 (some .boolean) ∈ TB := inTB 604 (by rfl) (by rfl)
set_option maxRecDepth 100000 in
theorem lc_X5_keep : Cond.code yX5_keep cX5_keep 2 (none) ∈ TB := inTB 487 (by rfl) (by rfl)
set_option maxRecDepth 100000 in
theorem lc_X5_key : Cond.code yX5_key cX5_key 4 (some .int) ∈ TB := inTB 666 (by rfl) (by rfl)
set_option maxRecDepth 100000 in
theorem lc_X5_keys : Cond.code yX5_keys cX5_keys 3 (some .int) ∈ TB := inTB 654 (by rfl) (by rfl)
set_option maxRecDepth 100000 in
theorem lc_X5_kinds : Cond.code yX5_kinds cX5_kinds 3 (some .int) ∈ TB := inTB 572 (by rfl) (by rfl)
set_option maxRecDepth 100000 in
theorem lc_X5_law : Cond.code yX5_law cX5_law 4 (some .int) ∈ TB := inTB 634 (by rfl) (by rfl)
set_option maxRecDepth 100000 in
theorem lc_X5_laws : Cond.code yX5_laws cX5_laws 3 (some .int) ∈ TB := inTB 623 (by rfl) (by rfl)
set_option maxRecDepth 100000 in
theorem lc_X5_least : Cond.code yX5_least cX5_least 2 (some .int) ∈ TB := inTB 576 (by rfl) (by rfl)
set_option maxRecDepth 100000 in
theorem lc_X5_least0 : Cond.code yX5_least0 cX5_least0 2 (some .int) ∈ TB := inTB 584 (by rfl) (by rfl)
set_option maxRecDepth 100000 in
theorem lc_X5_mend : Cond.code yX5_mend cX5_mend 10 (some .int) ∈ TB := inTB 678 (by rfl) (by rfl)
set_option maxRecDepth 100000 in
theorem lc_X5_most : Cond.code yX5_most cX5_most 1 (some .int) ∈ TB := inTB 561 (by rfl) (by rfl)
set_option maxRecDepth 100000 in
theorem lc_X5_pairs : Cond.code yX5_pairs cX5_pairs 3 (some .int) ∈ TB := inTB 557 (by rfl) (by rfl)
set_option maxRecDepth 100000 in
theorem lc_X5_place : Cond.code yX5_place cX5_place 1 (some .int) ∈ TB := inTB 549 (by rfl) (by rfl)
set_option maxRecDepth 100000 in
theorem lc_X5_price : Cond.code yX5_price cX5_price 3 (some .boolean) ∈ TB := inTB 526 (by rfl) (by rfl)
set_option maxRecDepth 100000 in
theorem lc_X5_put : Cond.code yX5_put cX5_put 11 (some .boolean) ∈ TB := inTB 491 (by rfl) (by rfl)
set_option maxRecDepth 100000 in
theorem lc_X5_row : Cond.code yX5_row cX5_row 3 (some .int) ∈ TB := inTB 538 (by rfl) (by rfl)
set_option maxRecDepth 100000 in
theorem lc_X5_said : Cond.code yX5_said cX5_said 3 (some .int) ∈ TB := inTB 612 (by rfl) (by rfl)
set_option maxRecDepth 100000 in
theorem lc_X5_saysAll : Cond.code yX5_saysAll cX5_saysAll 6 (some .boolean) ∈ TB := inTB 619 (by rfl) (by rfl)
set_option maxRecDepth 100000 in
theorem lc_X5_set : Cond.code yX5_set cX5_set 4 (none) ∈ TB := inTB 498 (by rfl) (by rfl)
set_option maxRecDepth 100000 in
theorem lc_X5_settles : Cond.code yX5_settles cX5_settles 6 (some .int) ∈ TB := inTB 642 (by rfl) (by rfl)
set_option maxRecDepth 100000 in
theorem lc_X5_size : Cond.code yX5_size cX5_size 3 (some .int) ∈ TB := inTB 630 (by rfl) (by rfl)
set_option maxRecDepth 100000 in
theorem lc_X5_sort : Cond.code yX5_sort cX5_sort 7 (some .int) ∈ TB := inTB 638 (by rfl) (by rfl)
set_option maxRecDepth 100000 in
theorem lc_X5_step : Cond.code yX5_step cX5_step 6 (some .int) ∈ TB := inTB 553 (by rfl) (by rfl)
set_option maxRecDepth 100000 in
theorem lc_X5_strike : Cond.code yX5_strike cX5_strike 2 (some .boolean) ∈ TB := inTB 522 (by rfl) (by rfl)
set_option maxRecDepth 100000 in
theorem lc_X5_swap : Cond.code yX5_swap cX5_swap 5 (some .boolean) ∈ TB := inTB 530 (by rfl) (by rfl)
set_option maxRecDepth 100000 in
theorem lc_X5_table : Cond.code yX5_table cX5_table 3 (some .boolean) ∈ TB := inTB 480 (by rfl) (by rfl)
set_option maxRecDepth 100000 in
theorem lc_X5_tell : Cond.code yX5_tell cX5_tell 3 (some .boolean) ∈ TB := inTB 670 (by rfl) (by rfl)
set_option maxRecDepth 100000 in
theorem lc_X5_told : Cond.code yX5_told cX5_told 2 (some .int) ∈ TB := inTB 674 (by rfl) (by rfl)
set_option maxRecDepth 100000 in
theorem lc_X5_turned : Cond.code yX5_turned cX5_turned 4 (some .int) ∈ TB := inTB 588 (by rfl) (by rfl)
set_option maxRecDepth 100000 in
theorem lc_X5_undo : Cond.code yX5_undo cX5_undo 2 (some .boolean) ∈ TB := inTB 476 (by rfl) (by rfl)
set_option maxRecDepth 100000 in
theorem li_RJ6 : Cond.initialized RJ6 ∈ TB := inTB 39 (by rfl) (by rfl)
set_option maxRecDepth 100000 in
theorem li_RJ7 : Cond.initialized RJ7 ∈ TB := inTB 32 (by rfl) (by rfl)
set_option maxRecDepth 100000 in
theorem li_RX0 : Cond.initialized RX0 ∈ TB := inTB 33 (by rfl) (by rfl)
set_option maxRecDepth 100000 in
theorem li_RX1 : Cond.initialized RX1 ∈ TB := inTB 35 (by rfl) (by rfl)
set_option maxRecDepth 100000 in
theorem li_RX2 : Cond.initialized RX2 ∈ TB := inTB 31 (by rfl) (by rfl)
set_option maxRecDepth 100000 in
theorem li_RX3 : Cond.initialized RX3 ∈ TB := inTB 34 (by rfl) (by rfl)
set_option maxRecDepth 100000 in
theorem li_RX4 : Cond.initialized RX4 ∈ TB := inTB 30 (by rfl) (by rfl)
set_option maxRecDepth 100000 in
theorem li_RX5 : Cond.initialized RX5 ∈ TB := inTB 36 (by rfl) (by rfl)
set_option maxRecDepth 100000 in
theorem lk_RJ6_c265 : Cond.constant RJ6 265 (1431655765) ∈ TB := inTB 418 (by rfl) (by rfl)
set_option maxRecDepth 100000 in
theorem lk_RJ6_c266 : Cond.constant RJ6 266 (858993459) ∈ TB := inTB 419 (by rfl) (by rfl)
set_option maxRecDepth 100000 in
theorem lk_RJ6_c267 : Cond.constant RJ6 267 (252645135) ∈ TB := inTB 420 (by rfl) (by rfl)
set_option maxRecDepth 100000 in
theorem lk_RL_100 : Cond.methodLink RL 100 yX5_keys ∈ TB := inTB 651 (by rfl) (by rfl)
set_option maxRecDepth 100000 in
theorem lk_RL_101 : Cond.methodLink RL 101 yX4_key ∈ TB := inTB 382 (by rfl) (by rfl)
set_option maxRecDepth 100000 in
theorem lk_RL_104 : Cond.methodLink RL 104 yX5_key ∈ TB := inTB 663 (by rfl) (by rfl)
set_option maxRecDepth 100000 in
theorem lk_RL_105 : Cond.methodLink RL 105 yX4_tell ∈ TB := inTB 386 (by rfl) (by rfl)
set_option maxRecDepth 100000 in
theorem lk_RL_108 : Cond.methodLink RL 108 yX5_tell ∈ TB := inTB 667 (by rfl) (by rfl)
set_option maxRecDepth 100000 in
theorem lk_RL_109 : Cond.methodLink RL 109 yX4_told ∈ TB := inTB 390 (by rfl) (by rfl)
set_option maxRecDepth 100000 in
theorem lk_RL_112 : Cond.methodLink RL 112 yX5_told ∈ TB := inTB 671 (by rfl) (by rfl)
set_option maxRecDepth 100000 in
theorem lk_RL_113 : Cond.methodLink RL 113 yX4_mend ∈ TB := inTB 394 (by rfl) (by rfl)
set_option maxRecDepth 100000 in
theorem lk_RL_116 : Cond.methodLink RL 116 yX5_mend ∈ TB := inTB 675 (by rfl) (by rfl)
set_option maxRecDepth 100000 in
theorem lk_RL_117 : Cond.methodLink RL 117 yX4_undo ∈ TB := inTB 433 (by rfl) (by rfl)
set_option maxRecDepth 100000 in
theorem lk_RL_121 : Cond.methodLink RL 121 yX5_undo ∈ TB := inTB 473 (by rfl) (by rfl)
set_option maxRecDepth 100000 in
theorem lk_RL_13 : Cond.methodLink RL 13 yX4_table ∈ TB := inTB 158 (by rfl) (by rfl)
set_option maxRecDepth 100000 in
theorem lk_RL_17 : Cond.methodLink RL 17 yX5_table ∈ TB := inTB 477 (by rfl) (by rfl)
set_option maxRecDepth 100000 in
theorem lk_RL_18 : Cond.methodLink RL 18 yX4_put ∈ TB := inTB 184 (by rfl) (by rfl)
set_option maxRecDepth 100000 in
theorem lk_RL_22 : Cond.methodLink RL 22 yX5_put ∈ TB := inTB 488 (by rfl) (by rfl)
set_option maxRecDepth 100000 in
theorem lk_RL_23 : Cond.methodLink RL 23 yX4_change ∈ TB := inTB 202 (by rfl) (by rfl)
set_option maxRecDepth 100000 in
theorem lk_RL_27 : Cond.methodLink RL 27 yX5_change ∈ TB := inTB 499 (by rfl) (by rfl)
set_option maxRecDepth 100000 in
theorem lk_RL_28 : Cond.methodLink RL 28 yX4_strike ∈ TB := inTB 215 (by rfl) (by rfl)
set_option maxRecDepth 100000 in
theorem lk_RL_31 : Cond.methodLink RL 31 yX5_strike ∈ TB := inTB 519 (by rfl) (by rfl)
set_option maxRecDepth 100000 in
theorem lk_RL_32 : Cond.methodLink RL 32 yX4_price ∈ TB := inTB 219 (by rfl) (by rfl)
set_option maxRecDepth 100000 in
theorem lk_RL_36 : Cond.methodLink RL 36 yX5_price ∈ TB := inTB 523 (by rfl) (by rfl)
set_option maxRecDepth 100000 in
theorem lk_RL_37 : Cond.methodLink RL 37 yX4_swap ∈ TB := inTB 223 (by rfl) (by rfl)
set_option maxRecDepth 100000 in
theorem lk_RL_40 : Cond.methodLink RL 40 yX5_swap ∈ TB := inTB 527 (by rfl) (by rfl)
set_option maxRecDepth 100000 in
theorem lk_RL_41 : Cond.methodLink RL 41 yX4_at ∈ TB := inTB 240 (by rfl) (by rfl)
set_option maxRecDepth 100000 in
theorem lk_RL_45 : Cond.methodLink RL 45 yX5_at ∈ TB := inTB 531 (by rfl) (by rfl)
set_option maxRecDepth 100000 in
theorem lk_RL_46 : Cond.methodLink RL 46 yX4_row ∈ TB := inTB 248 (by rfl) (by rfl)
set_option maxRecDepth 100000 in
theorem lk_RL_49 : Cond.methodLink RL 49 yX5_row ∈ TB := inTB 535 (by rfl) (by rfl)
set_option maxRecDepth 100000 in
theorem lk_RL_50 : Cond.methodLink RL 50 yX4_between ∈ TB := inTB 252 (by rfl) (by rfl)
set_option maxRecDepth 100000 in
theorem lk_RL_53 : Cond.methodLink RL 53 yX5_between ∈ TB := inTB 539 (by rfl) (by rfl)
set_option maxRecDepth 100000 in
theorem lk_RL_54 : Cond.methodLink RL 54 yX4_pairs ∈ TB := inTB 266 (by rfl) (by rfl)
set_option maxRecDepth 100000 in
theorem lk_RL_58 : Cond.methodLink RL 58 yX5_pairs ∈ TB := inTB 554 (by rfl) (by rfl)
set_option maxRecDepth 100000 in
theorem lk_RL_59 : Cond.methodLink RL 59 yX4_kinds ∈ TB := inTB 306 (by rfl) (by rfl)
set_option maxRecDepth 100000 in
theorem lk_RL_63 : Cond.methodLink RL 63 yX5_kinds ∈ TB := inTB 569 (by rfl) (by rfl)
set_option maxRecDepth 100000 in
theorem lk_RL_64 : Cond.methodLink RL 64 yX4_broken ∈ TB := inTB 314 (by rfl) (by rfl)
set_option maxRecDepth 100000 in
theorem lk_RL_67 : Cond.methodLink RL 67 yX5_broken ∈ TB := inTB 589 (by rfl) (by rfl)
set_option maxRecDepth 100000 in
theorem lk_RL_68 : Cond.methodLink RL 68 yX4_breaker ∈ TB := inTB 318 (by rfl) (by rfl)
set_option maxRecDepth 100000 in
theorem lk_RL_72 : Cond.methodLink RL 72 yX5_breaker ∈ TB := inTB 605 (by rfl) (by rfl)
set_option maxRecDepth 100000 in
theorem lk_RL_73 : Cond.methodLink RL 73 yX4_laws ∈ TB := inTB 331 (by rfl) (by rfl)
set_option maxRecDepth 100000 in
theorem lk_RL_76 : Cond.methodLink RL 76 yX5_laws ∈ TB := inTB 620 (by rfl) (by rfl)
set_option maxRecDepth 100000 in
theorem lk_RL_77 : Cond.methodLink RL 77 yX4_law ∈ TB := inTB 347 (by rfl) (by rfl)
set_option maxRecDepth 100000 in
theorem lk_RL_80 : Cond.methodLink RL 80 yX5_law ∈ TB := inTB 631 (by rfl) (by rfl)
set_option maxRecDepth 100000 in
theorem lk_RL_81 : Cond.methodLink RL 81 yX4_sort ∈ TB := inTB 351 (by rfl) (by rfl)
set_option maxRecDepth 100000 in
theorem lk_RL_84 : Cond.methodLink RL 84 yX5_sort ∈ TB := inTB 635 (by rfl) (by rfl)
set_option maxRecDepth 100000 in
theorem lk_RL_85 : Cond.methodLink RL 85 yX4_least ∈ TB := inTB 355 (by rfl) (by rfl)
set_option maxRecDepth 100000 in
theorem lk_RL_88 : Cond.methodLink RL 88 yX5_least ∈ TB := inTB 573 (by rfl) (by rfl)
set_option maxRecDepth 100000 in
theorem lk_RL_89 : Cond.methodLink RL 89 yX4_said ∈ TB := inTB 361 (by rfl) (by rfl)
set_option maxRecDepth 100000 in
theorem lk_RL_92 : Cond.methodLink RL 92 yX5_said ∈ TB := inTB 609 (by rfl) (by rfl)
set_option maxRecDepth 100000 in
theorem lk_RL_93 : Cond.methodLink RL 93 yX4_settles ∈ TB := inTB 366 (by rfl) (by rfl)
set_option maxRecDepth 100000 in
theorem lk_RL_96 : Cond.methodLink RL 96 yX5_settles ∈ TB := inTB 639 (by rfl) (by rfl)
set_option maxRecDepth 100000 in
theorem lk_RL_97 : Cond.methodLink RL 97 yX4_keys ∈ TB := inTB 373 (by rfl) (by rfl)
set_option maxRecDepth 100000 in
theorem lk_RX0_11 : Cond.fieldLink RX0 11 "LawFinder$History" "ring" "[LLawFinder$Sheet;" ∈ TB := inTB 94 (by rfl) (by rfl)
set_option maxRecDepth 100000 in
theorem lk_RX0_17 : Cond.fieldLink RX0 17 "LawFinder$History" "next" "I" ∈ TB := inTB 95 (by rfl) (by rfl)
set_option maxRecDepth 100000 in
theorem lk_RX0_21 : Cond.fieldLink RX0 21 "LawFinder$History" "kept" "I" ∈ TB := inTB 96 (by rfl) (by rfl)
set_option maxRecDepth 100000 in
theorem lk_RX0_25 : Cond.methodLink RX0 25 yX2_copyFrom ∈ TB := inTB 170 (by rfl) (by rfl)
set_option maxRecDepth 100000 in
theorem lk_RX0_29 : Cond.methodLink RX0 29 Lib.Math.min.name ∈ TB := inTB 177 (by rfl) (by rfl)
set_option maxRecDepth 100000 in
theorem lk_RX1_15 : Cond.fieldLink RX1 15 "LawFinder$Mender" "weights" "[I" ∈ TB := inTB 126 (by rfl) (by rfl)
set_option maxRecDepth 100000 in
theorem lk_RX1_18 : Cond.fieldLink RX1 18 "LawFinder$Mender" "brokenPairs" "I" ∈ TB := inTB 127 (by rfl) (by rfl)
set_option maxRecDepth 100000 in
theorem lk_RX1_22 : Cond.fieldLink RX1 22 "LawFinder$Mender" "lightest" "I" ∈ TB := inTB 129 (by rfl) (by rfl)
set_option maxRecDepth 100000 in
theorem lk_RX1_25 : Cond.methodLink RX1 25 yX2_hasRow ∈ TB := inTB 402 (by rfl) (by rfl)
set_option maxRecDepth 100000 in
theorem lk_RX1_31 : Cond.fieldLink RX1 31 "LawFinder$Sheet" "priceOf" "[I" ∈ TB := inTB 65 (by rfl) (by rfl)
set_option maxRecDepth 100000 in
theorem lk_RX1_35 : Cond.methodLink RX1 35 yX1_breaksOne ∈ TB := inTB 404 (by rfl) (by rfl)
set_option maxRecDepth 100000 in
theorem lk_RX1_40 : Cond.methodLink RX1 40 yX1_lightestCover ∈ TB := inTB 409 (by rfl) (by rfl)
set_option maxRecDepth 100000 in
theorem lk_RX1_44 : Cond.fieldLink RX1 44 "LawFinder$Sheet" "toldLaws" "[I" ∈ TB := inTB 69 (by rfl) (by rfl)
set_option maxRecDepth 100000 in
theorem lk_RX1_47 : Cond.methodLink RX1 47 yX2_pairBreaks ∈ TB := inTB 407 (by rfl) (by rfl)
set_option maxRecDepth 100000 in
theorem lk_RX1_51 : Cond.methodLink RX1 51 yX1_busiest ∈ TB := inTB 412 (by rfl) (by rfl)
set_option maxRecDepth 100000 in
theorem lk_RX1_55 : Cond.methodLink RX1 55 yX1_weightOf ∈ TB := inTB 421 (by rfl) (by rfl)
set_option maxRecDepth 100000 in
theorem lk_RX1_58 : Cond.methodLink RX1 58 yJ6_bitCount_0f7a4 ∈ TB := inTB 415 (by rfl) (by rfl)
set_option maxRecDepth 100000 in
theorem lk_RX1_64 : Cond.methodLink RX1 64 Lib.Math.min.name ∈ TB := inTB 424 (by rfl) (by rfl)
set_option maxRecDepth 100000 in
theorem lk_RX1_9 : Cond.fieldLink RX1 9 "LawFinder$Mender" "foes" "[I" ∈ TB := inTB 125 (by rfl) (by rfl)
set_option maxRecDepth 100000 in
theorem lk_RX1_c34 : Cond.constant RX1 34 (65536) ∈ TB := inTB 403 (by rfl) (by rfl)
set_option maxRecDepth 100000 in
theorem lk_RX1_c39 : Cond.constant RX1 39 (65535) ∈ TB := inTB 408 (by rfl) (by rfl)
set_option maxRecDepth 100000 in
theorem lk_RX2_15 : Cond.fieldLink RX2 15 "LawFinder$Sheet" "kindOf" "[I" ∈ TB := inTB 60 (by rfl) (by rfl)
set_option maxRecDepth 100000 in
theorem lk_RX2_19 : Cond.fieldLink RX2 19 "LawFinder$Sheet" "sizeOf" "[I" ∈ TB := inTB 62 (by rfl) (by rfl)
set_option maxRecDepth 100000 in
theorem lk_RX2_22 : Cond.fieldLink RX2 22 "LawFinder$Sheet" "priceOf" "[I" ∈ TB := inTB 64 (by rfl) (by rfl)
set_option maxRecDepth 100000 in
theorem lk_RX2_25 : Cond.fieldLink RX2 25 "LawFinder$Sheet" "numbers" "[I" ∈ TB := inTB 67 (by rfl) (by rfl)
set_option maxRecDepth 100000 in
theorem lk_RX2_28 : Cond.fieldLink RX2 28 "LawFinder$Sheet" "toldLaws" "[I" ∈ TB := inTB 68 (by rfl) (by rfl)
set_option maxRecDepth 100000 in
theorem lk_RX2_31 : Cond.methodLink RX2 31 yJ7_fill_53178 ∈ TB := inTB 54 (by rfl) (by rfl)
set_option maxRecDepth 100000 in
theorem lk_RX2_37 : Cond.methodLink RX2 37 arraycopyName ∈ TB := inTB 174 (by rfl) (by rfl)
set_option maxRecDepth 100000 in
theorem lk_RX2_47 : Cond.methodLink RX2 47 yX2_hasRow ∈ TB := inTB 231 (by rfl) (by rfl)
set_option maxRecDepth 100000 in
theorem lk_RX2_50 : Cond.methodLink RX2 50 Lib.Math.min.name ∈ TB := inTB 232 (by rfl) (by rfl)
set_option maxRecDepth 100000 in
theorem lk_RX2_59 : Cond.methodLink RX2 59 yX2_read ∈ TB := inTB 262 (by rfl) (by rfl)
set_option maxRecDepth 100000 in
theorem lk_RX2_62 : Cond.methodLink RX2 62 yX2_word ∈ TB := inTB 263 (by rfl) (by rfl)
set_option maxRecDepth 100000 in
theorem lk_RX2_65 : Cond.methodLink RX2 65 yX2_compared ∈ TB := inTB 326 (by rfl) (by rfl)
set_option maxRecDepth 100000 in
theorem lk_RX2_9 : Cond.fieldLink RX2 9 "LawFinder$Sheet" "columns" "I" ∈ TB := inTB 57 (by rfl) (by rfl)
set_option maxRecDepth 100000 in
theorem lk_RX3_15 : Cond.fieldLink RX3 15 "LawFinder$Tally" "breaks" "[I" ∈ TB := inTB 112 (by rfl) (by rfl)
set_option maxRecDepth 100000 in
theorem lk_RX3_18 : Cond.methodLink RX3 18 yJ7_fill_53178 ∈ TB := inTB 289 (by rfl) (by rfl)
set_option maxRecDepth 100000 in
theorem lk_RX3_24 : Cond.methodLink RX3 24 yX2_hasRow ∈ TB := inTB 290 (by rfl) (by rfl)
set_option maxRecDepth 100000 in
theorem lk_RX3_30 : Cond.methodLink RX3 30 yX2_compared ∈ TB := inTB 291 (by rfl) (by rfl)
set_option maxRecDepth 100000 in
theorem lk_RX3_34 : Cond.methodLink RX3 34 arraycopyName ∈ TB := inTB 292 (by rfl) (by rfl)
set_option maxRecDepth 100000 in
theorem lk_RX3_40 : Cond.fieldLink RX3 40 "LawFinder$Sheet" "columns" "I" ∈ TB := inTB 58 (by rfl) (by rfl)
set_option maxRecDepth 100000 in
theorem lk_RX3_47 : Cond.methodLink RX3 47 yX3_sumUp ∈ TB := inTB 294 (by rfl) (by rfl)
set_option maxRecDepth 100000 in
theorem lk_RX3_51 : Cond.methodLink RX3 51 yX3_halveEven ∈ TB := inTB 299 (by rfl) (by rfl)
set_option maxRecDepth 100000 in
theorem lk_RX3_65 : Cond.methodLink RX3 65 yX3_hasWiderNear ∈ TB := inTB 343 (by rfl) (by rfl)
set_option maxRecDepth 100000 in
theorem lk_RX3_9 : Cond.fieldLink RX3 9 "LawFinder$Tally" "seen" "[I" ∈ TB := inTB 110 (by rfl) (by rfl)
set_option maxRecDepth 100000 in
theorem lk_RX4_10 : Cond.fieldLink RX4 10 "LawFinder" "sheet" "LLawFinder$Sheet;" ∈ TB := inTB 139 (by rfl) (by rfl)
set_option maxRecDepth 100000 in
theorem lk_RX4_102 : Cond.methodLink RX4 102 yX4_isLaw ∈ TB := inTB 270 (by rfl) (by rfl)
set_option maxRecDepth 100000 in
theorem lk_RX4_105 : Cond.methodLink RX4 105 yX4_columnsOf ∈ TB := inTB 275 (by rfl) (by rfl)
set_option maxRecDepth 100000 in
theorem lk_RX4_109 : Cond.fieldLink RX4 109 "LawFinder$Sheet" "columns" "I" ∈ TB := inTB 59 (by rfl) (by rfl)
set_option maxRecDepth 100000 in
theorem lk_RX4_113 : Cond.methodLink RX4 113 yX4_count ∈ TB := inTB 281 (by rfl) (by rfl)
set_option maxRecDepth 100000 in
theorem lk_RX4_116 : Cond.fieldLink RX4 116 "LawFinder$Tally" "seen" "[I" ∈ TB := inTB 111 (by rfl) (by rfl)
set_option maxRecDepth 100000 in
theorem lk_RX4_119 : Cond.methodLink RX4 119 yX3_unlikeSeen ∈ TB := inTB 310 (by rfl) (by rfl)
set_option maxRecDepth 100000 in
theorem lk_RX4_122 : Cond.fieldLink RX4 122 "LawFinder$Tally" "breaks" "[I" ∈ TB := inTB 113 (by rfl) (by rfl)
set_option maxRecDepth 100000 in
theorem lk_RX4_125 : Cond.methodLink RX4 125 yX2_pairBreaks ∈ TB := inTB 322 (by rfl) (by rfl)
set_option maxRecDepth 100000 in
theorem lk_RX4_129 : Cond.methodLink RX4 129 yX4_canSeek ∈ TB := inTB 335 (by rfl) (by rfl)
set_option maxRecDepth 100000 in
theorem lk_RX4_132 : Cond.fieldLink RX4 132 "LawFinder" "FIVES" "[I" ∈ TB := inTB 274 (by rfl) (by rfl)
set_option maxRecDepth 100000 in
theorem lk_RX4_135 : Cond.methodLink RX4 135 yX3_isFound ∈ TB := inTB 338 (by rfl) (by rfl)
set_option maxRecDepth 100000 in
theorem lk_RX4_138 : Cond.methodLink RX4 138 yX4_digitOf ∈ TB := inTB 278 (by rfl) (by rfl)
set_option maxRecDepth 100000 in
theorem lk_RX4_141 : Cond.methodLink RX4 141 yX4_turnedOf ∈ TB := inTB 359 (by rfl) (by rfl)
set_option maxRecDepth 100000 in
theorem lk_RX4_144 : Cond.methodLink RX4 144 Lib.Math.min.name ∈ TB := inTB 360 (by rfl) (by rfl)
set_option maxRecDepth 100000 in
theorem lk_RX4_147 : Cond.methodLink RX4 147 yX4_covers ∈ TB := inTB 365 (by rfl) (by rfl)
set_option maxRecDepth 100000 in
theorem lk_RX4_150 : Cond.methodLink RX4 150 yX4_alikeLaw ∈ TB := inTB 370 (by rfl) (by rfl)
set_option maxRecDepth 100000 in
theorem lk_RX4_153 : Cond.methodLink RX4 153 yX3_isLeastKey ∈ TB := inTB 377 (by rfl) (by rfl)
set_option maxRecDepth 100000 in
theorem lk_RX4_156 : Cond.fieldLink RX4 156 "LawFinder$Sheet" "toldLaws" "[I" ∈ TB := inTB 70 (by rfl) (by rfl)
set_option maxRecDepth 100000 in
theorem lk_RX4_159 : Cond.methodLink RX4 159 yX1_seek ∈ TB := inTB 398 (by rfl) (by rfl)
set_option maxRecDepth 100000 in
theorem lk_RX4_163 : Cond.methodLink RX4 163 yX1_cost ∈ TB := inTB 425 (by rfl) (by rfl)
set_option maxRecDepth 100000 in
theorem lk_RX4_166 : Cond.methodLink RX4 166 yX1_slots ∈ TB := inTB 429 (by rfl) (by rfl)
set_option maxRecDepth 100000 in
theorem lk_RX4_169 : Cond.fieldLink RX4 169 "LawFinder$Mender" "brokenPairs" "I" ∈ TB := inTB 128 (by rfl) (by rfl)
set_option maxRecDepth 100000 in
theorem lk_RX4_172 : Cond.methodLink RX4 172 yX0_giveBack ∈ TB := inTB 437 (by rfl) (by rfl)
set_option maxRecDepth 100000 in
theorem lk_RX4_176 : Cond.methodLink RX4 176 yX0_keep ∈ TB := inTB 166 (by rfl) (by rfl)
set_option maxRecDepth 100000 in
theorem lk_RX4_179 : Cond.methodLink RX4 179 yX3_recount ∈ TB := inTB 285 (by rfl) (by rfl)
set_option maxRecDepth 100000 in
theorem lk_RX4_19 : Cond.fieldLink RX4 19 "LawFinder" "history" "LLawFinder$History;" ∈ TB := inTB 140 (by rfl) (by rfl)
set_option maxRecDepth 100000 in
theorem lk_RX4_26 : Cond.fieldLink RX4 26 "LawFinder" "tally" "LLawFinder$Tally;" ∈ TB := inTB 141 (by rfl) (by rfl)
set_option maxRecDepth 100000 in
theorem lk_RX4_33 : Cond.fieldLink RX4 33 "LawFinder" "mender" "LLawFinder$Mender;" ∈ TB := inTB 142 (by rfl) (by rfl)
set_option maxRecDepth 100000 in
theorem lk_RX4_37 : Cond.fieldLink RX4 37 "LawFinder" "counted" "Z" ∈ TB := inTB 143 (by rfl) (by rfl)
set_option maxRecDepth 100000 in
theorem lk_RX4_41 : Cond.fieldLink RX4 41 "LawFinder" "mended" "Z" ∈ TB := inTB 144 (by rfl) (by rfl)
set_option maxRecDepth 100000 in
theorem lk_RX4_44 : Cond.methodLink RX4 44 yX4_remember ∈ TB := inTB 162 (by rfl) (by rfl)
set_option maxRecDepth 100000 in
theorem lk_RX4_47 : Cond.methodLink RX4 47 yX2_empty ∈ TB := inTB 180 (by rfl) (by rfl)
set_option maxRecDepth 100000 in
theorem lk_RX4_51 : Cond.methodLink RX4 51 yX4_isSlot ∈ TB := inTB 188 (by rfl) (by rfl)
set_option maxRecDepth 100000 in
theorem lk_RX4_55 : Cond.methodLink RX4 55 yX4_fits ∈ TB := inTB 191 (by rfl) (by rfl)
set_option maxRecDepth 100000 in
theorem lk_RX4_59 : Cond.methodLink RX4 59 yX2_seat ∈ TB := inTB 194 (by rfl) (by rfl)
set_option maxRecDepth 100000 in
theorem lk_RX4_63 : Cond.methodLink RX4 63 yX2_write ∈ TB := inTB 198 (by rfl) (by rfl)
set_option maxRecDepth 100000 in
theorem lk_RX4_66 : Cond.methodLink RX4 66 yX2_hasRow ∈ TB := inTB 206 (by rfl) (by rfl)
set_option maxRecDepth 100000 in
theorem lk_RX4_69 : Cond.methodLink RX4 69 yX2_hasColumn ∈ TB := inTB 211 (by rfl) (by rfl)
set_option maxRecDepth 100000 in
theorem lk_RX4_72 : Cond.fieldLink RX4 72 "LawFinder$Sheet" "sizeOf" "[I" ∈ TB := inTB 63 (by rfl) (by rfl)
set_option maxRecDepth 100000 in
theorem lk_RX4_76 : Cond.fieldLink RX4 76 "LawFinder$Sheet" "kindOf" "[I" ∈ TB := inTB 61 (by rfl) (by rfl)
set_option maxRecDepth 100000 in
theorem lk_RX4_79 : Cond.fieldLink RX4 79 "LawFinder$Sheet" "priceOf" "[I" ∈ TB := inTB 66 (by rfl) (by rfl)
set_option maxRecDepth 100000 in
theorem lk_RX4_82 : Cond.methodLink RX4 82 yX2_shortest ∈ TB := inTB 227 (by rfl) (by rfl)
set_option maxRecDepth 100000 in
theorem lk_RX4_86 : Cond.methodLink RX4 86 Lib.Math.max.name ∈ TB := inTB 233 (by rfl) (by rfl)
set_option maxRecDepth 100000 in
theorem lk_RX4_92 : Cond.methodLink RX4 92 yX2_exchange ∈ TB := inTB 236 (by rfl) (by rfl)
set_option maxRecDepth 100000 in
theorem lk_RX4_96 : Cond.methodLink RX4 96 yX2_read ∈ TB := inTB 244 (by rfl) (by rfl)
set_option maxRecDepth 100000 in
theorem lk_RX4_99 : Cond.methodLink RX4 99 yX2_compared ∈ TB := inTB 256 (by rfl) (by rfl)
set_option maxRecDepth 100000 in
theorem lk_RX5_101 : Cond.methodLink RX5 101 yX5_saysAll ∈ TB := inTB 617 (by rfl) (by rfl)
set_option maxRecDepth 100000 in
theorem lk_RX5_104 : Cond.methodLink RX5 104 yX5_isSaid ∈ TB := inTB 613 (by rfl) (by rfl)
set_option maxRecDepth 100000 in
theorem lk_RX5_107 : Cond.fieldLink RX5 107 "LawFinderModel" "foundMany" "I" ∈ TB := inTB 453 (by rfl) (by rfl)
set_option maxRecDepth 100000 in
theorem lk_RX5_110 : Cond.methodLink RX5 110 yX5_size ∈ TB := inTB 628 (by rfl) (by rfl)
set_option maxRecDepth 100000 in
theorem lk_RX5_113 : Cond.methodLink RX5 113 yX5_finds ∈ TB := inTB 624 (by rfl) (by rfl)
set_option maxRecDepth 100000 in
theorem lk_RX5_116 : Cond.methodLink RX5 116 yX5_isSet ∈ TB := inTB 643 (by rfl) (by rfl)
set_option maxRecDepth 100000 in
theorem lk_RX5_119 : Cond.methodLink RX5 119 yX5_alikeIn ∈ TB := inTB 647 (by rfl) (by rfl)
set_option maxRecDepth 100000 in
theorem lk_RX5_122 : Cond.methodLink RX5 122 yX5_isKey ∈ TB := inTB 659 (by rfl) (by rfl)
set_option maxRecDepth 100000 in
theorem lk_RX5_125 : Cond.methodLink RX5 125 yX5_isLeastKey ∈ TB := inTB 655 (by rfl) (by rfl)
set_option maxRecDepth 100000 in
theorem lk_RX5_128 : Cond.methodLink RX5 128 yX5_told ∈ TB := inTB 683 (by rfl) (by rfl)
set_option maxRecDepth 100000 in
theorem lk_RX5_13 : Cond.fieldLink RX5 13 "LawFinderModel" "before" "[I" ∈ TB := inTB 448 (by rfl) (by rfl)
set_option maxRecDepth 100000 in
theorem lk_RX5_131 : Cond.methodLink RX5 131 yX5_conflicts ∈ TB := inTB 679 (by rfl) (by rfl)
set_option maxRecDepth 100000 in
theorem lk_RX5_16 : Cond.fieldLink RX5 16 "LawFinderModel" "pairCount" "[I" ∈ TB := inTB 450 (by rfl) (by rfl)
set_option maxRecDepth 100000 in
theorem lk_RX5_19 : Cond.fieldLink RX5 19 "LawFinderModel" "near" "[Z" ∈ TB := inTB 451 (by rfl) (by rfl)
set_option maxRecDepth 100000 in
theorem lk_RX5_23 : Cond.fieldLink RX5 23 "LawFinderModel" "found" "[I" ∈ TB := inTB 452 (by rfl) (by rfl)
set_option maxRecDepth 100000 in
theorem lk_RX5_26 : Cond.fieldLink RX5 26 "LawFinderModel" "against" "[I" ∈ TB := inTB 454 (by rfl) (by rfl)
set_option maxRecDepth 100000 in
theorem lk_RX5_29 : Cond.methodLink RX5 29 yX5_isIn ∈ TB := inTB 481 (by rfl) (by rfl)
set_option maxRecDepth 100000 in
theorem lk_RX5_33 : Cond.methodLink RX5 33 yX5_get ∈ TB := inTB 507 (by rfl) (by rfl)
set_option maxRecDepth 100000 in
theorem lk_RX5_37 : Cond.methodLink RX5 37 yX5_columns ∈ TB := inTB 515 (by rfl) (by rfl)
set_option maxRecDepth 100000 in
theorem lk_RX5_41 : Cond.fieldLink RX5 41 "LawFinderModel" "kept" "I" ∈ TB := inTB 449 (by rfl) (by rfl)
set_option maxRecDepth 100000 in
theorem lk_RX5_45 : Cond.methodLink RX5 45 yX5_keep ∈ TB := inTB 484 (by rfl) (by rfl)
set_option maxRecDepth 100000 in
theorem lk_RX5_48 : Cond.methodLink RX5 48 yX5_isNumber ∈ TB := inTB 492 (by rfl) (by rfl)
set_option maxRecDepth 100000 in
theorem lk_RX5_52 : Cond.methodLink RX5 52 yX5_set ∈ TB := inTB 495 (by rfl) (by rfl)
set_option maxRecDepth 100000 in
theorem lk_RX5_56 : Cond.methodLink RX5 56 yX5_isRow ∈ TB := inTB 503 (by rfl) (by rfl)
set_option maxRecDepth 100000 in
theorem lk_RX5_60 : Cond.methodLink RX5 60 yX5_isColumn ∈ TB := inTB 511 (by rfl) (by rfl)
set_option maxRecDepth 100000 in
theorem lk_RX5_63 : Cond.methodLink RX5 63 yX5_place ∈ TB := inTB 547 (by rfl) (by rfl)
set_option maxRecDepth 100000 in
theorem lk_RX5_67 : Cond.methodLink RX5 67 yX5_step ∈ TB := inTB 550 (by rfl) (by rfl)
set_option maxRecDepth 100000 in
theorem lk_RX5_7 : Cond.fieldLink RX5 7 "LawFinderModel" "now" "[I" ∈ TB := inTB 447 (by rfl) (by rfl)
set_option maxRecDepth 100000 in
theorem lk_RX5_71 : Cond.methodLink RX5 71 yX5_between0 ∈ TB := inTB 543 (by rfl) (by rfl)
set_option maxRecDepth 100000 in
theorem lk_RX5_74 : Cond.methodLink RX5 74 yX5_most ∈ TB := inTB 558 (by rfl) (by rfl)
set_option maxRecDepth 100000 in
theorem lk_RX5_77 : Cond.methodLink RX5 77 yX5_digit ∈ TB := inTB 562 (by rfl) (by rfl)
set_option maxRecDepth 100000 in
theorem lk_RX5_80 : Cond.methodLink RX5 80 yX5_counts ∈ TB := inTB 565 (by rfl) (by rfl)
set_option maxRecDepth 100000 in
theorem lk_RX5_83 : Cond.methodLink RX5 83 yX5_turned ∈ TB := inTB 585 (by rfl) (by rfl)
set_option maxRecDepth 100000 in
theorem lk_RX5_86 : Cond.methodLink RX5 86 yX5_isLaw ∈ TB := inTB 577 (by rfl) (by rfl)
set_option maxRecDepth 100000 in
theorem lk_RX5_89 : Cond.methodLink RX5 89 yX5_least0 ∈ TB := inTB 581 (by rfl) (by rfl)
set_option maxRecDepth 100000 in
theorem lk_RX5_92 : Cond.methodLink RX5 92 yX5_isSo ∈ TB := inTB 601 (by rfl) (by rfl)
set_option maxRecDepth 100000 in
theorem lk_RX5_95 : Cond.methodLink RX5 95 yX5_breaks ∈ TB := inTB 597 (by rfl) (by rfl)
set_option maxRecDepth 100000 in
theorem lk_RX5_98 : Cond.methodLink RX5 98 yX5_broken0 ∈ TB := inTB 593 (by rfl) (by rfl)
set_option maxRecDepth 100000 in
theorem lk_RX5_c134 : Cond.constant RX5 134 (65536) ∈ TB := inTB 684 (by rfl) (by rfl)
set_option maxRecDepth 100000 in
theorem lk_acs : Cond.static arraycopyName ∈ TB := inTB 175 (by rfl) (by rfl)
set_option maxRecDepth 100000 in
theorem lk_math : Cond.initialized "java/lang/Math" ∈ TB := inTB 38 (by rfl) (by rfl)
set_option maxRecDepth 100000 in
theorem lk_mmax_c : Cond.code Lib.Math.max.name Lib.Math.max.code 2 (some .int) ∈ TB := inTB 235 (by rfl) (by rfl)
set_option maxRecDepth 100000 in
theorem lk_mmax_s : Cond.static Lib.Math.max.name ∈ TB := inTB 234 (by rfl) (by rfl)
set_option maxRecDepth 100000 in
theorem lk_mmin_c : Cond.code Lib.Math.min.name Lib.Math.min.code 2 (some .int) ∈ TB := inTB 179 (by rfl) (by rfl)
set_option maxRecDepth 100000 in
theorem lk_mmin_s : Cond.static Lib.Math.min.name ∈ TB := inTB 178 (by rfl) (by rfl)
set_option maxRecDepth 100000 in
theorem lk_nat : Cond.native arraycopyName ∈ TB := inTB 176 (by rfl) (by rfl)
set_option maxRecDepth 100000 in
theorem lk_sys : Cond.initialized "java/lang/System" ∈ TB := inTB 37 (by rfl) (by rfl)
set_option maxRecDepth 100000 in
theorem ls_J6_bitCount_0f7a4 : Cond.static yJ6_bitCount_0f7a4 ∈ TB := inTB 416 (by rfl) (by rfl)
set_option maxRecDepth 100000 in
theorem ls_J7_fill_53178 : Cond.static yJ7_fill_53178 ∈ TB := inTB 55 (by rfl) (by rfl)
set_option maxRecDepth 100000 in
theorem ls_X0_giveBack : Cond.instanceMethod yX0_giveBack ∈ TB := inTB 438 (by rfl) (by rfl)
set_option maxRecDepth 100000 in
theorem ls_X0_keep : Cond.instanceMethod yX0_keep ∈ TB := inTB 167 (by rfl) (by rfl)
set_option maxRecDepth 100000 in
theorem ls_X1_breaksOne : Cond.static yX1_breaksOne ∈ TB := inTB 405 (by rfl) (by rfl)
set_option maxRecDepth 100000 in
theorem ls_X1_busiest : Cond.static yX1_busiest ∈ TB := inTB 413 (by rfl) (by rfl)
set_option maxRecDepth 100000 in
theorem ls_X1_cost : Cond.instanceMethod yX1_cost ∈ TB := inTB 426 (by rfl) (by rfl)
set_option maxRecDepth 100000 in
theorem ls_X1_lightestCover : Cond.static yX1_lightestCover ∈ TB := inTB 410 (by rfl) (by rfl)
set_option maxRecDepth 100000 in
theorem ls_X1_seek : Cond.instanceMethod yX1_seek ∈ TB := inTB 399 (by rfl) (by rfl)
set_option maxRecDepth 100000 in
theorem ls_X1_slots : Cond.instanceMethod yX1_slots ∈ TB := inTB 430 (by rfl) (by rfl)
set_option maxRecDepth 100000 in
theorem ls_X1_weightOf : Cond.static yX1_weightOf ∈ TB := inTB 422 (by rfl) (by rfl)
set_option maxRecDepth 100000 in
theorem ls_X2_compared : Cond.instanceMethod yX2_compared ∈ TB := inTB 257 (by rfl) (by rfl)
set_option maxRecDepth 100000 in
theorem ls_X2_copyFrom : Cond.instanceMethod yX2_copyFrom ∈ TB := inTB 171 (by rfl) (by rfl)
set_option maxRecDepth 100000 in
theorem ls_X2_empty : Cond.instanceMethod yX2_empty ∈ TB := inTB 181 (by rfl) (by rfl)
set_option maxRecDepth 100000 in
theorem ls_X2_exchange : Cond.instanceMethod yX2_exchange ∈ TB := inTB 237 (by rfl) (by rfl)
set_option maxRecDepth 100000 in
theorem ls_X2_hasColumn : Cond.instanceMethod yX2_hasColumn ∈ TB := inTB 212 (by rfl) (by rfl)
set_option maxRecDepth 100000 in
theorem ls_X2_hasRow : Cond.instanceMethod yX2_hasRow ∈ TB := inTB 207 (by rfl) (by rfl)
set_option maxRecDepth 100000 in
theorem ls_X2_pairBreaks : Cond.instanceMethod yX2_pairBreaks ∈ TB := inTB 323 (by rfl) (by rfl)
set_option maxRecDepth 100000 in
theorem ls_X2_read : Cond.instanceMethod yX2_read ∈ TB := inTB 245 (by rfl) (by rfl)
set_option maxRecDepth 100000 in
theorem ls_X2_seat : Cond.instanceMethod yX2_seat ∈ TB := inTB 195 (by rfl) (by rfl)
set_option maxRecDepth 100000 in
theorem ls_X2_shortest : Cond.instanceMethod yX2_shortest ∈ TB := inTB 228 (by rfl) (by rfl)
set_option maxRecDepth 100000 in
theorem ls_X2_word : Cond.static yX2_word ∈ TB := inTB 264 (by rfl) (by rfl)
set_option maxRecDepth 100000 in
theorem ls_X2_write : Cond.instanceMethod yX2_write ∈ TB := inTB 199 (by rfl) (by rfl)
set_option maxRecDepth 100000 in
theorem ls_X3_halveEven : Cond.instanceMethod yX3_halveEven ∈ TB := inTB 301 (by rfl) (by rfl)
set_option maxRecDepth 100000 in
theorem ls_X3_hasWiderNear : Cond.instanceMethod yX3_hasWiderNear ∈ TB := inTB 345 (by rfl) (by rfl)
set_option maxRecDepth 100000 in
theorem ls_X3_isFound : Cond.instanceMethod yX3_isFound ∈ TB := inTB 339 (by rfl) (by rfl)
set_option maxRecDepth 100000 in
theorem ls_X3_isLeastKey : Cond.instanceMethod yX3_isLeastKey ∈ TB := inTB 378 (by rfl) (by rfl)
set_option maxRecDepth 100000 in
theorem ls_X3_recount : Cond.instanceMethod yX3_recount ∈ TB := inTB 286 (by rfl) (by rfl)
set_option maxRecDepth 100000 in
theorem ls_X3_sumUp : Cond.instanceMethod yX3_sumUp ∈ TB := inTB 296 (by rfl) (by rfl)
set_option maxRecDepth 100000 in
theorem ls_X3_unlikeSeen : Cond.instanceMethod yX3_unlikeSeen ∈ TB := inTB 311 (by rfl) (by rfl)
set_option maxRecDepth 100000 in
theorem ls_X4_alikeLaw : Cond.static yX4_alikeLaw ∈ TB := inTB 371 (by rfl) (by rfl)
set_option maxRecDepth 100000 in
theorem ls_X4_at : Cond.instanceMethod yX4_at ∈ TB := inTB 241 (by rfl) (by rfl)
set_option maxRecDepth 100000 in
theorem ls_X4_between : Cond.instanceMethod yX4_between ∈ TB := inTB 253 (by rfl) (by rfl)
set_option maxRecDepth 100000 in
theorem ls_X4_breaker : Cond.instanceMethod yX4_breaker ∈ TB := inTB 319 (by rfl) (by rfl)
set_option maxRecDepth 100000 in
theorem ls_X4_broken : Cond.instanceMethod yX4_broken ∈ TB := inTB 315 (by rfl) (by rfl)
set_option maxRecDepth 100000 in
theorem ls_X4_canSeek : Cond.static yX4_canSeek ∈ TB := inTB 336 (by rfl) (by rfl)
set_option maxRecDepth 100000 in
theorem ls_X4_change : Cond.instanceMethod yX4_change ∈ TB := inTB 203 (by rfl) (by rfl)
set_option maxRecDepth 100000 in
theorem ls_X4_columnsOf : Cond.static yX4_columnsOf ∈ TB := inTB 276 (by rfl) (by rfl)
set_option maxRecDepth 100000 in
theorem ls_X4_count : Cond.instanceMethod yX4_count ∈ TB := inTB 283 (by rfl) (by rfl)
set_option maxRecDepth 100000 in
theorem ls_X4_covers : Cond.static yX4_covers ∈ TB := inTB 328 (by rfl) (by rfl)
set_option maxRecDepth 100000 in
theorem ls_X4_digitOf : Cond.static yX4_digitOf ∈ TB := inTB 279 (by rfl) (by rfl)
set_option maxRecDepth 100000 in
theorem ls_X4_fits : Cond.static yX4_fits ∈ TB := inTB 192 (by rfl) (by rfl)
set_option maxRecDepth 100000 in
theorem ls_X4_isLaw : Cond.instanceMethod yX4_isLaw ∈ TB := inTB 272 (by rfl) (by rfl)
set_option maxRecDepth 100000 in
theorem ls_X4_isSlot : Cond.static yX4_isSlot ∈ TB := inTB 189 (by rfl) (by rfl)
set_option maxRecDepth 100000 in
theorem ls_X4_key : Cond.instanceMethod yX4_key ∈ TB := inTB 383 (by rfl) (by rfl)
set_option maxRecDepth 100000 in
theorem ls_X4_keys : Cond.instanceMethod yX4_keys ∈ TB := inTB 374 (by rfl) (by rfl)
set_option maxRecDepth 100000 in
theorem ls_X4_kinds : Cond.instanceMethod yX4_kinds ∈ TB := inTB 307 (by rfl) (by rfl)
set_option maxRecDepth 100000 in
theorem ls_X4_law : Cond.instanceMethod yX4_law ∈ TB := inTB 348 (by rfl) (by rfl)
set_option maxRecDepth 100000 in
theorem ls_X4_laws : Cond.instanceMethod yX4_laws ∈ TB := inTB 332 (by rfl) (by rfl)
set_option maxRecDepth 100000 in
theorem ls_X4_least : Cond.instanceMethod yX4_least ∈ TB := inTB 356 (by rfl) (by rfl)
set_option maxRecDepth 100000 in
theorem ls_X4_mend : Cond.instanceMethod yX4_mend ∈ TB := inTB 395 (by rfl) (by rfl)
set_option maxRecDepth 100000 in
theorem ls_X4_pairs : Cond.instanceMethod yX4_pairs ∈ TB := inTB 267 (by rfl) (by rfl)
set_option maxRecDepth 100000 in
theorem ls_X4_price : Cond.instanceMethod yX4_price ∈ TB := inTB 220 (by rfl) (by rfl)
set_option maxRecDepth 100000 in
theorem ls_X4_put : Cond.instanceMethod yX4_put ∈ TB := inTB 185 (by rfl) (by rfl)
set_option maxRecDepth 100000 in
theorem ls_X4_remember : Cond.instanceMethod yX4_remember ∈ TB := inTB 164 (by rfl) (by rfl)
set_option maxRecDepth 100000 in
theorem ls_X4_row : Cond.instanceMethod yX4_row ∈ TB := inTB 249 (by rfl) (by rfl)
set_option maxRecDepth 100000 in
theorem ls_X4_said : Cond.instanceMethod yX4_said ∈ TB := inTB 362 (by rfl) (by rfl)
set_option maxRecDepth 100000 in
theorem ls_X4_settles : Cond.instanceMethod yX4_settles ∈ TB := inTB 367 (by rfl) (by rfl)
set_option maxRecDepth 100000 in
theorem ls_X4_sort : Cond.instanceMethod yX4_sort ∈ TB := inTB 352 (by rfl) (by rfl)
set_option maxRecDepth 100000 in
theorem ls_X4_strike : Cond.instanceMethod yX4_strike ∈ TB := inTB 216 (by rfl) (by rfl)
set_option maxRecDepth 100000 in
theorem ls_X4_swap : Cond.instanceMethod yX4_swap ∈ TB := inTB 224 (by rfl) (by rfl)
set_option maxRecDepth 100000 in
theorem ls_X4_table : Cond.instanceMethod yX4_table ∈ TB := inTB 159 (by rfl) (by rfl)
set_option maxRecDepth 100000 in
theorem ls_X4_tell : Cond.instanceMethod yX4_tell ∈ TB := inTB 387 (by rfl) (by rfl)
set_option maxRecDepth 100000 in
theorem ls_X4_told : Cond.instanceMethod yX4_told ∈ TB := inTB 391 (by rfl) (by rfl)
set_option maxRecDepth 100000 in
theorem ls_X4_turnedOf : Cond.static yX4_turnedOf ∈ TB := inTB 304 (by rfl) (by rfl)
set_option maxRecDepth 100000 in
theorem ls_X4_undo : Cond.instanceMethod yX4_undo ∈ TB := inTB 434 (by rfl) (by rfl)
set_option maxRecDepth 100000 in
theorem ls_X5_alikeIn : Cond.instanceMethod yX5_alikeIn ∈ TB := inTB 649 (by rfl) (by rfl)
set_option maxRecDepth 100000 in
theorem ls_X5_at : Cond.instanceMethod yX5_at ∈ TB := inTB 532 (by rfl) (by rfl)
set_option maxRecDepth 100000 in
theorem ls_X5_between : Cond.instanceMethod yX5_between ∈ TB := inTB 540 (by rfl) (by rfl)
set_option maxRecDepth 100000 in
theorem ls_X5_between0 : Cond.instanceMethod yX5_between0 ∈ TB := inTB 545 (by rfl) (by rfl)
set_option maxRecDepth 100000 in
theorem ls_X5_breaker : Cond.instanceMethod yX5_breaker ∈ TB := inTB 606 (by rfl) (by rfl)
set_option maxRecDepth 100000 in
theorem ls_X5_breaks : Cond.instanceMethod yX5_breaks ∈ TB := inTB 599 (by rfl) (by rfl)
set_option maxRecDepth 100000 in
theorem ls_X5_broken : Cond.instanceMethod yX5_broken ∈ TB := inTB 590 (by rfl) (by rfl)
set_option maxRecDepth 100000 in
theorem ls_X5_broken0 : Cond.instanceMethod yX5_broken0 ∈ TB := inTB 595 (by rfl) (by rfl)
set_option maxRecDepth 100000 in
theorem ls_X5_change : Cond.instanceMethod yX5_change ∈ TB := inTB 500 (by rfl) (by rfl)
set_option maxRecDepth 100000 in
theorem ls_X5_columns : Cond.instanceMethod yX5_columns ∈ TB := inTB 517 (by rfl) (by rfl)
set_option maxRecDepth 100000 in
theorem ls_X5_conflicts : Cond.instanceMethod yX5_conflicts ∈ TB := inTB 681 (by rfl) (by rfl)
set_option maxRecDepth 100000 in
theorem ls_X5_counts : Cond.instanceMethod yX5_counts ∈ TB := inTB 567 (by rfl) (by rfl)
set_option maxRecDepth 100000 in
theorem ls_X5_digit : Cond.static yX5_digit ∈ TB := inTB 563 (by rfl) (by rfl)
set_option maxRecDepth 100000 in
theorem ls_X5_finds : Cond.instanceMethod yX5_finds ∈ TB := inTB 626 (by rfl) (by rfl)
set_option maxRecDepth 100000 in
theorem ls_X5_get : Cond.instanceMethod yX5_get ∈ TB := inTB 509 (by rfl) (by rfl)
set_option maxRecDepth 100000 in
theorem ls_X5_isColumn : Cond.instanceMethod yX5_isColumn ∈ TB := inTB 513 (by rfl) (by rfl)
set_option maxRecDepth 100000 in
theorem ls_X5_isIn : Cond.static yX5_isIn ∈ TB := inTB 482 (by rfl) (by rfl)
set_option maxRecDepth 100000 in
theorem ls_X5_isKey : Cond.instanceMethod yX5_isKey ∈ TB := inTB 661 (by rfl) (by rfl)
set_option maxRecDepth 100000 in
theorem ls_X5_isLaw : Cond.instanceMethod yX5_isLaw ∈ TB := inTB 579 (by rfl) (by rfl)
set_option maxRecDepth 100000 in
theorem ls_X5_isLeastKey : Cond.instanceMethod yX5_isLeastKey ∈ TB := inTB 657 (by rfl) (by rfl)
set_option maxRecDepth 100000 in
theorem ls_X5_isNumber : Cond.static yX5_isNumber ∈ TB := inTB 493 (by rfl) (by rfl)
set_option maxRecDepth 100000 in
theorem ls_X5_isRow : Cond.instanceMethod yX5_isRow ∈ TB := inTB 505 (by rfl) (by rfl)
set_option maxRecDepth 100000 in
theorem ls_X5_isSaid : Cond.instanceMethod yX5_isSaid ∈ TB := inTB 615 (by rfl) (by rfl)
set_option maxRecDepth 100000 in
theorem ls_X5_isSet : Cond.instanceMethod yX5_isSet ∈ TB := inTB 645 (by rfl) (by rfl)
set_option maxRecDepth 100000 in
theorem ls_X5_isSo : Cond.instanceMethod yX5_isSo ∈ TB := inTB 603 (by rfl) (by rfl)
set_option maxRecDepth 100000 in
theorem ls_X5_keep : Cond.instanceMethod yX5_keep ∈ TB := inTB 486 (by rfl) (by rfl)
set_option maxRecDepth 100000 in
theorem ls_X5_key : Cond.instanceMethod yX5_key ∈ TB := inTB 664 (by rfl) (by rfl)
set_option maxRecDepth 100000 in
theorem ls_X5_keys : Cond.instanceMethod yX5_keys ∈ TB := inTB 652 (by rfl) (by rfl)
set_option maxRecDepth 100000 in
theorem ls_X5_kinds : Cond.instanceMethod yX5_kinds ∈ TB := inTB 570 (by rfl) (by rfl)
set_option maxRecDepth 100000 in
theorem ls_X5_law : Cond.instanceMethod yX5_law ∈ TB := inTB 632 (by rfl) (by rfl)
set_option maxRecDepth 100000 in
theorem ls_X5_laws : Cond.instanceMethod yX5_laws ∈ TB := inTB 621 (by rfl) (by rfl)
set_option maxRecDepth 100000 in
theorem ls_X5_least : Cond.instanceMethod yX5_least ∈ TB := inTB 574 (by rfl) (by rfl)
set_option maxRecDepth 100000 in
theorem ls_X5_least0 : Cond.instanceMethod yX5_least0 ∈ TB := inTB 583 (by rfl) (by rfl)
set_option maxRecDepth 100000 in
theorem ls_X5_mend : Cond.instanceMethod yX5_mend ∈ TB := inTB 676 (by rfl) (by rfl)
set_option maxRecDepth 100000 in
theorem ls_X5_most : Cond.instanceMethod yX5_most ∈ TB := inTB 560 (by rfl) (by rfl)
set_option maxRecDepth 100000 in
theorem ls_X5_pairs : Cond.instanceMethod yX5_pairs ∈ TB := inTB 555 (by rfl) (by rfl)
set_option maxRecDepth 100000 in
theorem ls_X5_place : Cond.static yX5_place ∈ TB := inTB 548 (by rfl) (by rfl)
set_option maxRecDepth 100000 in
theorem ls_X5_price : Cond.instanceMethod yX5_price ∈ TB := inTB 524 (by rfl) (by rfl)
set_option maxRecDepth 100000 in
theorem ls_X5_put : Cond.instanceMethod yX5_put ∈ TB := inTB 489 (by rfl) (by rfl)
set_option maxRecDepth 100000 in
theorem ls_X5_row : Cond.instanceMethod yX5_row ∈ TB := inTB 536 (by rfl) (by rfl)
set_option maxRecDepth 100000 in
theorem ls_X5_said : Cond.instanceMethod yX5_said ∈ TB := inTB 610 (by rfl) (by rfl)
set_option maxRecDepth 100000 in
theorem ls_X5_saysAll : Cond.static yX5_saysAll ∈ TB := inTB 618 (by rfl) (by rfl)
set_option maxRecDepth 100000 in
theorem ls_X5_set : Cond.instanceMethod yX5_set ∈ TB := inTB 497 (by rfl) (by rfl)
set_option maxRecDepth 100000 in
theorem ls_X5_settles : Cond.instanceMethod yX5_settles ∈ TB := inTB 640 (by rfl) (by rfl)
set_option maxRecDepth 100000 in
theorem ls_X5_size : Cond.static yX5_size ∈ TB := inTB 629 (by rfl) (by rfl)
set_option maxRecDepth 100000 in
theorem ls_X5_sort : Cond.instanceMethod yX5_sort ∈ TB := inTB 636 (by rfl) (by rfl)
set_option maxRecDepth 100000 in
theorem ls_X5_step : Cond.instanceMethod yX5_step ∈ TB := inTB 552 (by rfl) (by rfl)
set_option maxRecDepth 100000 in
theorem ls_X5_strike : Cond.instanceMethod yX5_strike ∈ TB := inTB 520 (by rfl) (by rfl)
set_option maxRecDepth 100000 in
theorem ls_X5_swap : Cond.instanceMethod yX5_swap ∈ TB := inTB 528 (by rfl) (by rfl)
set_option maxRecDepth 100000 in
theorem ls_X5_table : Cond.instanceMethod yX5_table ∈ TB := inTB 478 (by rfl) (by rfl)
set_option maxRecDepth 100000 in
theorem ls_X5_tell : Cond.instanceMethod yX5_tell ∈ TB := inTB 668 (by rfl) (by rfl)
set_option maxRecDepth 100000 in
theorem ls_X5_told : Cond.instanceMethod yX5_told ∈ TB := inTB 672 (by rfl) (by rfl)
set_option maxRecDepth 100000 in
theorem ls_X5_turned : Cond.instanceMethod yX5_turned ∈ TB := inTB 587 (by rfl) (by rfl)
set_option maxRecDepth 100000 in
theorem ls_X5_undo : Cond.instanceMethod yX5_undo ∈ TB := inTB 474 (by rfl) (by rfl)
set_option maxRecDepth 100000 in
theorem lz_X0_giveBack : Cond.selects RX0 yX0_giveBack yX0_giveBack ∈ TB := inTB 439 (by rfl) (by rfl)
set_option maxRecDepth 100000 in
theorem lz_X0_keep : Cond.selects RX0 yX0_keep yX0_keep ∈ TB := inTB 168 (by rfl) (by rfl)
set_option maxRecDepth 100000 in
theorem lz_X1_cost : Cond.selects RX1 yX1_cost yX1_cost ∈ TB := inTB 427 (by rfl) (by rfl)
set_option maxRecDepth 100000 in
theorem lz_X1_seek : Cond.selects RX1 yX1_seek yX1_seek ∈ TB := inTB 400 (by rfl) (by rfl)
set_option maxRecDepth 100000 in
theorem lz_X1_slots : Cond.selects RX1 yX1_slots yX1_slots ∈ TB := inTB 431 (by rfl) (by rfl)
set_option maxRecDepth 100000 in
theorem lz_X2_compared : Cond.selects RX2 yX2_compared yX2_compared ∈ TB := inTB 258 (by rfl) (by rfl)
set_option maxRecDepth 100000 in
theorem lz_X2_copyFrom : Cond.selects RX2 yX2_copyFrom yX2_copyFrom ∈ TB := inTB 172 (by rfl) (by rfl)
set_option maxRecDepth 100000 in
theorem lz_X2_empty : Cond.selects RX2 yX2_empty yX2_empty ∈ TB := inTB 182 (by rfl) (by rfl)
set_option maxRecDepth 100000 in
theorem lz_X2_exchange : Cond.selects RX2 yX2_exchange yX2_exchange ∈ TB := inTB 238 (by rfl) (by rfl)
set_option maxRecDepth 100000 in
theorem lz_X2_hasColumn : Cond.selects RX2 yX2_hasColumn yX2_hasColumn ∈ TB := inTB 213 (by rfl) (by rfl)
set_option maxRecDepth 100000 in
theorem lz_X2_hasRow : Cond.selects RX2 yX2_hasRow yX2_hasRow ∈ TB := inTB 208 (by rfl) (by rfl)
set_option maxRecDepth 100000 in
theorem lz_X2_pairBreaks : Cond.selects RX2 yX2_pairBreaks yX2_pairBreaks ∈ TB := inTB 324 (by rfl) (by rfl)
set_option maxRecDepth 100000 in
theorem lz_X2_read : Cond.selects RX2 yX2_read yX2_read ∈ TB := inTB 246 (by rfl) (by rfl)
set_option maxRecDepth 100000 in
theorem lz_X2_seat : Cond.selects RX2 yX2_seat yX2_seat ∈ TB := inTB 196 (by rfl) (by rfl)
set_option maxRecDepth 100000 in
theorem lz_X2_shortest : Cond.selects RX2 yX2_shortest yX2_shortest ∈ TB := inTB 229 (by rfl) (by rfl)
set_option maxRecDepth 100000 in
theorem lz_X2_write : Cond.selects RX2 yX2_write yX2_write ∈ TB := inTB 200 (by rfl) (by rfl)
set_option maxRecDepth 100000 in
theorem lz_X3_halveEven : Cond.selects RX3 yX3_halveEven yX3_halveEven ∈ TB := inTB 4 (by rfl) (by rfl)
set_option maxRecDepth 100000 in
theorem lz_X3_hasWiderNear : Cond.selects RX3 yX3_hasWiderNear yX3_hasWiderNear ∈ TB := inTB 5 (by rfl) (by rfl)
set_option maxRecDepth 100000 in
theorem lz_X3_isFound : Cond.selects RX3 yX3_isFound yX3_isFound ∈ TB := inTB 340 (by rfl) (by rfl)
set_option maxRecDepth 100000 in
theorem lz_X3_isLeastKey : Cond.selects RX3 yX3_isLeastKey yX3_isLeastKey ∈ TB := inTB 379 (by rfl) (by rfl)
set_option maxRecDepth 100000 in
theorem lz_X3_recount : Cond.selects RX3 yX3_recount yX3_recount ∈ TB := inTB 287 (by rfl) (by rfl)
set_option maxRecDepth 100000 in
theorem lz_X3_sumUp : Cond.selects RX3 yX3_sumUp yX3_sumUp ∈ TB := inTB 3 (by rfl) (by rfl)
set_option maxRecDepth 100000 in
theorem lz_X3_unlikeSeen : Cond.selects RX3 yX3_unlikeSeen yX3_unlikeSeen ∈ TB := inTB 312 (by rfl) (by rfl)
set_option maxRecDepth 100000 in
theorem lz_X4_at : Cond.selects RX4 yX4_at yX4_at ∈ TB := inTB 242 (by rfl) (by rfl)
set_option maxRecDepth 100000 in
theorem lz_X4_between : Cond.selects RX4 yX4_between yX4_between ∈ TB := inTB 254 (by rfl) (by rfl)
set_option maxRecDepth 100000 in
theorem lz_X4_breaker : Cond.selects RX4 yX4_breaker yX4_breaker ∈ TB := inTB 320 (by rfl) (by rfl)
set_option maxRecDepth 100000 in
theorem lz_X4_broken : Cond.selects RX4 yX4_broken yX4_broken ∈ TB := inTB 316 (by rfl) (by rfl)
set_option maxRecDepth 100000 in
theorem lz_X4_change : Cond.selects RX4 yX4_change yX4_change ∈ TB := inTB 204 (by rfl) (by rfl)
set_option maxRecDepth 100000 in
theorem lz_X4_count : Cond.selects RX4 yX4_count yX4_count ∈ TB := inTB 2 (by rfl) (by rfl)
set_option maxRecDepth 100000 in
theorem lz_X4_isLaw : Cond.selects RX4 yX4_isLaw yX4_isLaw ∈ TB := inTB 1 (by rfl) (by rfl)
set_option maxRecDepth 100000 in
theorem lz_X4_key : Cond.selects RX4 yX4_key yX4_key ∈ TB := inTB 384 (by rfl) (by rfl)
set_option maxRecDepth 100000 in
theorem lz_X4_keys : Cond.selects RX4 yX4_keys yX4_keys ∈ TB := inTB 375 (by rfl) (by rfl)
set_option maxRecDepth 100000 in
theorem lz_X4_kinds : Cond.selects RX4 yX4_kinds yX4_kinds ∈ TB := inTB 308 (by rfl) (by rfl)
set_option maxRecDepth 100000 in
theorem lz_X4_law : Cond.selects RX4 yX4_law yX4_law ∈ TB := inTB 349 (by rfl) (by rfl)
set_option maxRecDepth 100000 in
theorem lz_X4_laws : Cond.selects RX4 yX4_laws yX4_laws ∈ TB := inTB 333 (by rfl) (by rfl)
set_option maxRecDepth 100000 in
theorem lz_X4_least : Cond.selects RX4 yX4_least yX4_least ∈ TB := inTB 357 (by rfl) (by rfl)
set_option maxRecDepth 100000 in
theorem lz_X4_mend : Cond.selects RX4 yX4_mend yX4_mend ∈ TB := inTB 396 (by rfl) (by rfl)
set_option maxRecDepth 100000 in
theorem lz_X4_pairs : Cond.selects RX4 yX4_pairs yX4_pairs ∈ TB := inTB 268 (by rfl) (by rfl)
set_option maxRecDepth 100000 in
theorem lz_X4_price : Cond.selects RX4 yX4_price yX4_price ∈ TB := inTB 221 (by rfl) (by rfl)
set_option maxRecDepth 100000 in
theorem lz_X4_put : Cond.selects RX4 yX4_put yX4_put ∈ TB := inTB 186 (by rfl) (by rfl)
set_option maxRecDepth 100000 in
theorem lz_X4_remember : Cond.selects RX4 yX4_remember yX4_remember ∈ TB := inTB 0 (by rfl) (by rfl)
set_option maxRecDepth 100000 in
theorem lz_X4_row : Cond.selects RX4 yX4_row yX4_row ∈ TB := inTB 250 (by rfl) (by rfl)
set_option maxRecDepth 100000 in
theorem lz_X4_said : Cond.selects RX4 yX4_said yX4_said ∈ TB := inTB 363 (by rfl) (by rfl)
set_option maxRecDepth 100000 in
theorem lz_X4_settles : Cond.selects RX4 yX4_settles yX4_settles ∈ TB := inTB 368 (by rfl) (by rfl)
set_option maxRecDepth 100000 in
theorem lz_X4_sort : Cond.selects RX4 yX4_sort yX4_sort ∈ TB := inTB 353 (by rfl) (by rfl)
set_option maxRecDepth 100000 in
theorem lz_X4_strike : Cond.selects RX4 yX4_strike yX4_strike ∈ TB := inTB 217 (by rfl) (by rfl)
set_option maxRecDepth 100000 in
theorem lz_X4_swap : Cond.selects RX4 yX4_swap yX4_swap ∈ TB := inTB 225 (by rfl) (by rfl)
set_option maxRecDepth 100000 in
theorem lz_X4_table : Cond.selects RX4 yX4_table yX4_table ∈ TB := inTB 160 (by rfl) (by rfl)
set_option maxRecDepth 100000 in
theorem lz_X4_tell : Cond.selects RX4 yX4_tell yX4_tell ∈ TB := inTB 388 (by rfl) (by rfl)
set_option maxRecDepth 100000 in
theorem lz_X4_told : Cond.selects RX4 yX4_told yX4_told ∈ TB := inTB 392 (by rfl) (by rfl)
set_option maxRecDepth 100000 in
theorem lz_X4_undo : Cond.selects RX4 yX4_undo yX4_undo ∈ TB := inTB 435 (by rfl) (by rfl)
set_option maxRecDepth 100000 in
theorem lz_X5_alikeIn : Cond.selects RX5 yX5_alikeIn yX5_alikeIn ∈ TB := inTB 25 (by rfl) (by rfl)
set_option maxRecDepth 100000 in
theorem lz_X5_at : Cond.selects RX5 yX5_at yX5_at ∈ TB := inTB 533 (by rfl) (by rfl)
set_option maxRecDepth 100000 in
theorem lz_X5_between : Cond.selects RX5 yX5_between yX5_between ∈ TB := inTB 541 (by rfl) (by rfl)
set_option maxRecDepth 100000 in
theorem lz_X5_between0 : Cond.selects RX5 yX5_between0 yX5_between0 ∈ TB := inTB 12 (by rfl) (by rfl)
set_option maxRecDepth 100000 in
theorem lz_X5_breaker : Cond.selects RX5 yX5_breaker yX5_breaker ∈ TB := inTB 607 (by rfl) (by rfl)
set_option maxRecDepth 100000 in
theorem lz_X5_breaks : Cond.selects RX5 yX5_breaks yX5_breaks ∈ TB := inTB 20 (by rfl) (by rfl)
set_option maxRecDepth 100000 in
theorem lz_X5_broken : Cond.selects RX5 yX5_broken yX5_broken ∈ TB := inTB 591 (by rfl) (by rfl)
set_option maxRecDepth 100000 in
theorem lz_X5_broken0 : Cond.selects RX5 yX5_broken0 yX5_broken0 ∈ TB := inTB 19 (by rfl) (by rfl)
set_option maxRecDepth 100000 in
theorem lz_X5_change : Cond.selects RX5 yX5_change yX5_change ∈ TB := inTB 501 (by rfl) (by rfl)
set_option maxRecDepth 100000 in
theorem lz_X5_columns : Cond.selects RX5 yX5_columns yX5_columns ∈ TB := inTB 11 (by rfl) (by rfl)
set_option maxRecDepth 100000 in
theorem lz_X5_conflicts : Cond.selects RX5 yX5_conflicts yX5_conflicts ∈ TB := inTB 28 (by rfl) (by rfl)
set_option maxRecDepth 100000 in
theorem lz_X5_counts : Cond.selects RX5 yX5_counts yX5_counts ∈ TB := inTB 15 (by rfl) (by rfl)
set_option maxRecDepth 100000 in
theorem lz_X5_finds : Cond.selects RX5 yX5_finds yX5_finds ∈ TB := inTB 23 (by rfl) (by rfl)
set_option maxRecDepth 100000 in
theorem lz_X5_get : Cond.selects RX5 yX5_get yX5_get ∈ TB := inTB 9 (by rfl) (by rfl)
set_option maxRecDepth 100000 in
theorem lz_X5_isColumn : Cond.selects RX5 yX5_isColumn yX5_isColumn ∈ TB := inTB 10 (by rfl) (by rfl)
set_option maxRecDepth 100000 in
theorem lz_X5_isKey : Cond.selects RX5 yX5_isKey yX5_isKey ∈ TB := inTB 27 (by rfl) (by rfl)
set_option maxRecDepth 100000 in
theorem lz_X5_isLaw : Cond.selects RX5 yX5_isLaw yX5_isLaw ∈ TB := inTB 16 (by rfl) (by rfl)
set_option maxRecDepth 100000 in
theorem lz_X5_isLeastKey : Cond.selects RX5 yX5_isLeastKey yX5_isLeastKey ∈ TB := inTB 26 (by rfl) (by rfl)
set_option maxRecDepth 100000 in
theorem lz_X5_isRow : Cond.selects RX5 yX5_isRow yX5_isRow ∈ TB := inTB 8 (by rfl) (by rfl)
set_option maxRecDepth 100000 in
theorem lz_X5_isSaid : Cond.selects RX5 yX5_isSaid yX5_isSaid ∈ TB := inTB 22 (by rfl) (by rfl)
set_option maxRecDepth 100000 in
theorem lz_X5_isSet : Cond.selects RX5 yX5_isSet yX5_isSet ∈ TB := inTB 24 (by rfl) (by rfl)
set_option maxRecDepth 100000 in
theorem lz_X5_isSo : Cond.selects RX5 yX5_isSo yX5_isSo ∈ TB := inTB 21 (by rfl) (by rfl)
set_option maxRecDepth 100000 in
theorem lz_X5_keep : Cond.selects RX5 yX5_keep yX5_keep ∈ TB := inTB 6 (by rfl) (by rfl)
set_option maxRecDepth 100000 in
theorem lz_X5_key : Cond.selects RX5 yX5_key yX5_key ∈ TB := inTB 665 (by rfl) (by rfl)
set_option maxRecDepth 100000 in
theorem lz_X5_keys : Cond.selects RX5 yX5_keys yX5_keys ∈ TB := inTB 653 (by rfl) (by rfl)
set_option maxRecDepth 100000 in
theorem lz_X5_kinds : Cond.selects RX5 yX5_kinds yX5_kinds ∈ TB := inTB 571 (by rfl) (by rfl)
set_option maxRecDepth 100000 in
theorem lz_X5_law : Cond.selects RX5 yX5_law yX5_law ∈ TB := inTB 633 (by rfl) (by rfl)
set_option maxRecDepth 100000 in
theorem lz_X5_laws : Cond.selects RX5 yX5_laws yX5_laws ∈ TB := inTB 622 (by rfl) (by rfl)
set_option maxRecDepth 100000 in
theorem lz_X5_least : Cond.selects RX5 yX5_least yX5_least ∈ TB := inTB 575 (by rfl) (by rfl)
set_option maxRecDepth 100000 in
theorem lz_X5_least0 : Cond.selects RX5 yX5_least0 yX5_least0 ∈ TB := inTB 17 (by rfl) (by rfl)
set_option maxRecDepth 100000 in
theorem lz_X5_mend : Cond.selects RX5 yX5_mend yX5_mend ∈ TB := inTB 677 (by rfl) (by rfl)
set_option maxRecDepth 100000 in
theorem lz_X5_most : Cond.selects RX5 yX5_most yX5_most ∈ TB := inTB 14 (by rfl) (by rfl)
set_option maxRecDepth 100000 in
theorem lz_X5_pairs : Cond.selects RX5 yX5_pairs yX5_pairs ∈ TB := inTB 556 (by rfl) (by rfl)
set_option maxRecDepth 100000 in
theorem lz_X5_price : Cond.selects RX5 yX5_price yX5_price ∈ TB := inTB 525 (by rfl) (by rfl)
set_option maxRecDepth 100000 in
theorem lz_X5_put : Cond.selects RX5 yX5_put yX5_put ∈ TB := inTB 490 (by rfl) (by rfl)
set_option maxRecDepth 100000 in
theorem lz_X5_row : Cond.selects RX5 yX5_row yX5_row ∈ TB := inTB 537 (by rfl) (by rfl)
set_option maxRecDepth 100000 in
theorem lz_X5_said : Cond.selects RX5 yX5_said yX5_said ∈ TB := inTB 611 (by rfl) (by rfl)
set_option maxRecDepth 100000 in
theorem lz_X5_set : Cond.selects RX5 yX5_set yX5_set ∈ TB := inTB 7 (by rfl) (by rfl)
set_option maxRecDepth 100000 in
theorem lz_X5_settles : Cond.selects RX5 yX5_settles yX5_settles ∈ TB := inTB 641 (by rfl) (by rfl)
set_option maxRecDepth 100000 in
theorem lz_X5_sort : Cond.selects RX5 yX5_sort yX5_sort ∈ TB := inTB 637 (by rfl) (by rfl)
set_option maxRecDepth 100000 in
theorem lz_X5_step : Cond.selects RX5 yX5_step yX5_step ∈ TB := inTB 13 (by rfl) (by rfl)
set_option maxRecDepth 100000 in
theorem lz_X5_strike : Cond.selects RX5 yX5_strike yX5_strike ∈ TB := inTB 521 (by rfl) (by rfl)
set_option maxRecDepth 100000 in
theorem lz_X5_swap : Cond.selects RX5 yX5_swap yX5_swap ∈ TB := inTB 529 (by rfl) (by rfl)
set_option maxRecDepth 100000 in
theorem lz_X5_table : Cond.selects RX5 yX5_table yX5_table ∈ TB := inTB 479 (by rfl) (by rfl)
set_option maxRecDepth 100000 in
theorem lz_X5_tell : Cond.selects RX5 yX5_tell yX5_tell ∈ TB := inTB 669 (by rfl) (by rfl)
set_option maxRecDepth 100000 in
theorem lz_X5_told : Cond.selects RX5 yX5_told yX5_told ∈ TB := inTB 673 (by rfl) (by rfl)
set_option maxRecDepth 100000 in
theorem lz_X5_turned : Cond.selects RX5 yX5_turned yX5_turned ∈ TB := inTB 18 (by rfl) (by rfl)
set_option maxRecDepth 100000 in
theorem lz_X5_undo : Cond.selects RX5 yX5_undo yX5_undo ∈ TB := inTB 475 (by rfl) (by rfl)
theorem hv_X0_keep : yX0_keep.cls = RX0 ∧ yX0_keep.cls ≠ "java/lang/invoke/MethodHandle" ∧ yX0_keep.cls ≠ "java/lang/invoke/VarHandle" ∧ (parseMethodDescriptor yX0_keep.desc).map (fun d => d.parameters.length) = some 1 := by decide +kernel
theorem hv_X0_giveBack : yX0_giveBack.cls = RX0 ∧ yX0_giveBack.cls ≠ "java/lang/invoke/MethodHandle" ∧ yX0_giveBack.cls ≠ "java/lang/invoke/VarHandle" ∧ (parseMethodDescriptor yX0_giveBack.desc).map (fun d => d.parameters.length) = some 1 := by decide +kernel
theorem hv_X1_seek : yX1_seek.cls = RX1 ∧ yX1_seek.cls ≠ "java/lang/invoke/MethodHandle" ∧ yX1_seek.cls ≠ "java/lang/invoke/VarHandle" ∧ (parseMethodDescriptor yX1_seek.desc).map (fun d => d.parameters.length) = some 1 := by decide +kernel
theorem hv_X1_cost : yX1_cost.cls = RX1 ∧ yX1_cost.cls ≠ "java/lang/invoke/MethodHandle" ∧ yX1_cost.cls ≠ "java/lang/invoke/VarHandle" ∧ (parseMethodDescriptor yX1_cost.desc).map (fun d => d.parameters.length) = some 0 := by decide +kernel
theorem hv_X1_slots : yX1_slots.cls = RX1 ∧ yX1_slots.cls ≠ "java/lang/invoke/MethodHandle" ∧ yX1_slots.cls ≠ "java/lang/invoke/VarHandle" ∧ (parseMethodDescriptor yX1_slots.desc).map (fun d => d.parameters.length) = some 0 := by decide +kernel
theorem hy_X1_breaksOne : yX1_breaksOne.cls ≠ "java/lang/invoke/MethodHandle" ∧ yX1_breaksOne.cls ≠ "java/lang/invoke/VarHandle" ∧ (parseMethodDescriptor yX1_breaksOne.desc).map (fun d => d.parameters.length) = some 3 := by decide +kernel
theorem hy_X1_lightestCover : yX1_lightestCover.cls ≠ "java/lang/invoke/MethodHandle" ∧ yX1_lightestCover.cls ≠ "java/lang/invoke/VarHandle" ∧ (parseMethodDescriptor yX1_lightestCover.desc).map (fun d => d.parameters.length) = some 4 := by decide +kernel
theorem hy_X1_busiest : yX1_busiest.cls ≠ "java/lang/invoke/MethodHandle" ∧ yX1_busiest.cls ≠ "java/lang/invoke/VarHandle" ∧ (parseMethodDescriptor yX1_busiest.desc).map (fun d => d.parameters.length) = some 2 := by decide +kernel
theorem hy_X1_weightOf : yX1_weightOf.cls ≠ "java/lang/invoke/MethodHandle" ∧ yX1_weightOf.cls ≠ "java/lang/invoke/VarHandle" ∧ (parseMethodDescriptor yX1_weightOf.desc).map (fun d => d.parameters.length) = some 2 := by decide +kernel
theorem hv_X2_empty : yX2_empty.cls = RX2 ∧ yX2_empty.cls ≠ "java/lang/invoke/MethodHandle" ∧ yX2_empty.cls ≠ "java/lang/invoke/VarHandle" ∧ (parseMethodDescriptor yX2_empty.desc).map (fun d => d.parameters.length) = some 1 := by decide +kernel
theorem hv_X2_copyFrom : yX2_copyFrom.cls = RX2 ∧ yX2_copyFrom.cls ≠ "java/lang/invoke/MethodHandle" ∧ yX2_copyFrom.cls ≠ "java/lang/invoke/VarHandle" ∧ (parseMethodDescriptor yX2_copyFrom.desc).map (fun d => d.parameters.length) = some 1 := by decide +kernel
theorem hv_X2_hasRow : yX2_hasRow.cls = RX2 ∧ yX2_hasRow.cls ≠ "java/lang/invoke/MethodHandle" ∧ yX2_hasRow.cls ≠ "java/lang/invoke/VarHandle" ∧ (parseMethodDescriptor yX2_hasRow.desc).map (fun d => d.parameters.length) = some 1 := by decide +kernel
theorem hv_X2_hasColumn : yX2_hasColumn.cls = RX2 ∧ yX2_hasColumn.cls ≠ "java/lang/invoke/MethodHandle" ∧ yX2_hasColumn.cls ≠ "java/lang/invoke/VarHandle" ∧ (parseMethodDescriptor yX2_hasColumn.desc).map (fun d => d.parameters.length) = some 1 := by decide +kernel
theorem hv_X2_seat : yX2_seat.cls = RX2 ∧ yX2_seat.cls ≠ "java/lang/invoke/MethodHandle" ∧ yX2_seat.cls ≠ "java/lang/invoke/VarHandle" ∧ (parseMethodDescriptor yX2_seat.desc).map (fun d => d.parameters.length) = some 3 := by decide +kernel
theorem hv_X2_write : yX2_write.cls = RX2 ∧ yX2_write.cls ≠ "java/lang/invoke/MethodHandle" ∧ yX2_write.cls ≠ "java/lang/invoke/VarHandle" ∧ (parseMethodDescriptor yX2_write.desc).map (fun d => d.parameters.length) = some 3 := by decide +kernel
theorem hv_X2_read : yX2_read.cls = RX2 ∧ yX2_read.cls ≠ "java/lang/invoke/MethodHandle" ∧ yX2_read.cls ≠ "java/lang/invoke/VarHandle" ∧ (parseMethodDescriptor yX2_read.desc).map (fun d => d.parameters.length) = some 2 := by decide +kernel
theorem hv_X2_shortest : yX2_shortest.cls = RX2 ∧ yX2_shortest.cls ≠ "java/lang/invoke/MethodHandle" ∧ yX2_shortest.cls ≠ "java/lang/invoke/VarHandle" ∧ (parseMethodDescriptor yX2_shortest.desc).map (fun d => d.parameters.length) = some 0 := by decide +kernel
theorem hv_X2_exchange : yX2_exchange.cls = RX2 ∧ yX2_exchange.cls ≠ "java/lang/invoke/MethodHandle" ∧ yX2_exchange.cls ≠ "java/lang/invoke/VarHandle" ∧ (parseMethodDescriptor yX2_exchange.desc).map (fun d => d.parameters.length) = some 2 := by decide +kernel
theorem hv_X2_compared : yX2_compared.cls = RX2 ∧ yX2_compared.cls ≠ "java/lang/invoke/MethodHandle" ∧ yX2_compared.cls ≠ "java/lang/invoke/VarHandle" ∧ (parseMethodDescriptor yX2_compared.desc).map (fun d => d.parameters.length) = some 2 := by decide +kernel
theorem hy_X2_word : yX2_word.cls ≠ "java/lang/invoke/MethodHandle" ∧ yX2_word.cls ≠ "java/lang/invoke/VarHandle" ∧ (parseMethodDescriptor yX2_word.desc).map (fun d => d.parameters.length) = some 2 := by decide +kernel
theorem hv_X2_pairBreaks : yX2_pairBreaks.cls = RX2 ∧ yX2_pairBreaks.cls ≠ "java/lang/invoke/MethodHandle" ∧ yX2_pairBreaks.cls ≠ "java/lang/invoke/VarHandle" ∧ (parseMethodDescriptor yX2_pairBreaks.desc).map (fun d => d.parameters.length) = some 3 := by decide +kernel
theorem hv_X3_recount : yX3_recount.cls = RX3 ∧ yX3_recount.cls ≠ "java/lang/invoke/MethodHandle" ∧ yX3_recount.cls ≠ "java/lang/invoke/VarHandle" ∧ (parseMethodDescriptor yX3_recount.desc).map (fun d => d.parameters.length) = some 1 := by decide +kernel
theorem hv_X3_sumUp : yX3_sumUp.cls = RX3 ∧ yX3_sumUp.cls ≠ "java/lang/invoke/MethodHandle" ∧ yX3_sumUp.cls ≠ "java/lang/invoke/VarHandle" ∧ (parseMethodDescriptor yX3_sumUp.desc).map (fun d => d.parameters.length) = some 2 := by decide +kernel
theorem hv_X3_halveEven : yX3_halveEven.cls = RX3 ∧ yX3_halveEven.cls ≠ "java/lang/invoke/MethodHandle" ∧ yX3_halveEven.cls ≠ "java/lang/invoke/VarHandle" ∧ (parseMethodDescriptor yX3_halveEven.desc).map (fun d => d.parameters.length) = some 1 := by decide +kernel
theorem hv_X3_unlikeSeen : yX3_unlikeSeen.cls = RX3 ∧ yX3_unlikeSeen.cls ≠ "java/lang/invoke/MethodHandle" ∧ yX3_unlikeSeen.cls ≠ "java/lang/invoke/VarHandle" ∧ (parseMethodDescriptor yX3_unlikeSeen.desc).map (fun d => d.parameters.length) = some 0 := by decide +kernel
theorem hv_X3_isFound : yX3_isFound.cls = RX3 ∧ yX3_isFound.cls ≠ "java/lang/invoke/MethodHandle" ∧ yX3_isFound.cls ≠ "java/lang/invoke/VarHandle" ∧ (parseMethodDescriptor yX3_isFound.desc).map (fun d => d.parameters.length) = some 3 := by decide +kernel
theorem hv_X3_hasWiderNear : yX3_hasWiderNear.cls = RX3 ∧ yX3_hasWiderNear.cls ≠ "java/lang/invoke/MethodHandle" ∧ yX3_hasWiderNear.cls ≠ "java/lang/invoke/VarHandle" ∧ (parseMethodDescriptor yX3_hasWiderNear.desc).map (fun d => d.parameters.length) = some 2 := by decide +kernel
theorem hv_X3_isLeastKey : yX3_isLeastKey.cls = RX3 ∧ yX3_isLeastKey.cls ≠ "java/lang/invoke/MethodHandle" ∧ yX3_isLeastKey.cls ≠ "java/lang/invoke/VarHandle" ∧ (parseMethodDescriptor yX3_isLeastKey.desc).map (fun d => d.parameters.length) = some 1 := by decide +kernel
theorem hv_X4_table : yX4_table.cls = RX4 ∧ yX4_table.cls ≠ "java/lang/invoke/MethodHandle" ∧ yX4_table.cls ≠ "java/lang/invoke/VarHandle" ∧ (parseMethodDescriptor yX4_table.desc).map (fun d => d.parameters.length) = some 1 := by decide +kernel
theorem hv_X4_put : yX4_put.cls = RX4 ∧ yX4_put.cls ≠ "java/lang/invoke/MethodHandle" ∧ yX4_put.cls ≠ "java/lang/invoke/VarHandle" ∧ (parseMethodDescriptor yX4_put.desc).map (fun d => d.parameters.length) = some 7 := by decide +kernel
theorem hv_X4_change : yX4_change.cls = RX4 ∧ yX4_change.cls ≠ "java/lang/invoke/MethodHandle" ∧ yX4_change.cls ≠ "java/lang/invoke/VarHandle" ∧ (parseMethodDescriptor yX4_change.desc).map (fun d => d.parameters.length) = some 3 := by decide +kernel
theorem hv_X4_strike : yX4_strike.cls = RX4 ∧ yX4_strike.cls ≠ "java/lang/invoke/MethodHandle" ∧ yX4_strike.cls ≠ "java/lang/invoke/VarHandle" ∧ (parseMethodDescriptor yX4_strike.desc).map (fun d => d.parameters.length) = some 1 := by decide +kernel
theorem hv_X4_price : yX4_price.cls = RX4 ∧ yX4_price.cls ≠ "java/lang/invoke/MethodHandle" ∧ yX4_price.cls ≠ "java/lang/invoke/VarHandle" ∧ (parseMethodDescriptor yX4_price.desc).map (fun d => d.parameters.length) = some 2 := by decide +kernel
theorem hv_X4_swap : yX4_swap.cls = RX4 ∧ yX4_swap.cls ≠ "java/lang/invoke/MethodHandle" ∧ yX4_swap.cls ≠ "java/lang/invoke/VarHandle" ∧ (parseMethodDescriptor yX4_swap.desc).map (fun d => d.parameters.length) = some 2 := by decide +kernel
theorem hv_X4_at : yX4_at.cls = RX4 ∧ yX4_at.cls ≠ "java/lang/invoke/MethodHandle" ∧ yX4_at.cls ≠ "java/lang/invoke/VarHandle" ∧ (parseMethodDescriptor yX4_at.desc).map (fun d => d.parameters.length) = some 2 := by decide +kernel
theorem hv_X4_row : yX4_row.cls = RX4 ∧ yX4_row.cls ≠ "java/lang/invoke/MethodHandle" ∧ yX4_row.cls ≠ "java/lang/invoke/VarHandle" ∧ (parseMethodDescriptor yX4_row.desc).map (fun d => d.parameters.length) = some 2 := by decide +kernel
theorem hv_X4_between : yX4_between.cls = RX4 ∧ yX4_between.cls ≠ "java/lang/invoke/MethodHandle" ∧ yX4_between.cls ≠ "java/lang/invoke/VarHandle" ∧ (parseMethodDescriptor yX4_between.desc).map (fun d => d.parameters.length) = some 2 := by decide +kernel
theorem hv_X4_pairs : yX4_pairs.cls = RX4 ∧ yX4_pairs.cls ≠ "java/lang/invoke/MethodHandle" ∧ yX4_pairs.cls ≠ "java/lang/invoke/VarHandle" ∧ (parseMethodDescriptor yX4_pairs.desc).map (fun d => d.parameters.length) = some 1 := by decide +kernel
theorem hv_X4_kinds : yX4_kinds.cls = RX4 ∧ yX4_kinds.cls ≠ "java/lang/invoke/MethodHandle" ∧ yX4_kinds.cls ≠ "java/lang/invoke/VarHandle" ∧ (parseMethodDescriptor yX4_kinds.desc).map (fun d => d.parameters.length) = some 0 := by decide +kernel
theorem hv_X4_broken : yX4_broken.cls = RX4 ∧ yX4_broken.cls ≠ "java/lang/invoke/MethodHandle" ∧ yX4_broken.cls ≠ "java/lang/invoke/VarHandle" ∧ (parseMethodDescriptor yX4_broken.desc).map (fun d => d.parameters.length) = some 1 := by decide +kernel
theorem hv_X4_breaker : yX4_breaker.cls = RX4 ∧ yX4_breaker.cls ≠ "java/lang/invoke/MethodHandle" ∧ yX4_breaker.cls ≠ "java/lang/invoke/VarHandle" ∧ (parseMethodDescriptor yX4_breaker.desc).map (fun d => d.parameters.length) = some 3 := by decide +kernel
theorem hv_X4_laws : yX4_laws.cls = RX4 ∧ yX4_laws.cls ≠ "java/lang/invoke/MethodHandle" ∧ yX4_laws.cls ≠ "java/lang/invoke/VarHandle" ∧ (parseMethodDescriptor yX4_laws.desc).map (fun d => d.parameters.length) = some 2 := by decide +kernel
theorem hv_X4_law : yX4_law.cls = RX4 ∧ yX4_law.cls ≠ "java/lang/invoke/MethodHandle" ∧ yX4_law.cls ≠ "java/lang/invoke/VarHandle" ∧ (parseMethodDescriptor yX4_law.desc).map (fun d => d.parameters.length) = some 3 := by decide +kernel
theorem hv_X4_sort : yX4_sort.cls = RX4 ∧ yX4_sort.cls ≠ "java/lang/invoke/MethodHandle" ∧ yX4_sort.cls ≠ "java/lang/invoke/VarHandle" ∧ (parseMethodDescriptor yX4_sort.desc).map (fun d => d.parameters.length) = some 1 := by decide +kernel
theorem hv_X4_least : yX4_least.cls = RX4 ∧ yX4_least.cls ≠ "java/lang/invoke/MethodHandle" ∧ yX4_least.cls ≠ "java/lang/invoke/VarHandle" ∧ (parseMethodDescriptor yX4_least.desc).map (fun d => d.parameters.length) = some 1 := by decide +kernel
theorem hv_X4_said : yX4_said.cls = RX4 ∧ yX4_said.cls ≠ "java/lang/invoke/MethodHandle" ∧ yX4_said.cls ≠ "java/lang/invoke/VarHandle" ∧ (parseMethodDescriptor yX4_said.desc).map (fun d => d.parameters.length) = some 2 := by decide +kernel
theorem hv_X4_settles : yX4_settles.cls = RX4 ∧ yX4_settles.cls ≠ "java/lang/invoke/MethodHandle" ∧ yX4_settles.cls ≠ "java/lang/invoke/VarHandle" ∧ (parseMethodDescriptor yX4_settles.desc).map (fun d => d.parameters.length) = some 1 := by decide +kernel
theorem hv_X4_keys : yX4_keys.cls = RX4 ∧ yX4_keys.cls ≠ "java/lang/invoke/MethodHandle" ∧ yX4_keys.cls ≠ "java/lang/invoke/VarHandle" ∧ (parseMethodDescriptor yX4_keys.desc).map (fun d => d.parameters.length) = some 0 := by decide +kernel
theorem hv_X4_key : yX4_key.cls = RX4 ∧ yX4_key.cls ≠ "java/lang/invoke/MethodHandle" ∧ yX4_key.cls ≠ "java/lang/invoke/VarHandle" ∧ (parseMethodDescriptor yX4_key.desc).map (fun d => d.parameters.length) = some 1 := by decide +kernel
theorem hv_X4_tell : yX4_tell.cls = RX4 ∧ yX4_tell.cls ≠ "java/lang/invoke/MethodHandle" ∧ yX4_tell.cls ≠ "java/lang/invoke/VarHandle" ∧ (parseMethodDescriptor yX4_tell.desc).map (fun d => d.parameters.length) = some 2 := by decide +kernel
theorem hv_X4_told : yX4_told.cls = RX4 ∧ yX4_told.cls ≠ "java/lang/invoke/MethodHandle" ∧ yX4_told.cls ≠ "java/lang/invoke/VarHandle" ∧ (parseMethodDescriptor yX4_told.desc).map (fun d => d.parameters.length) = some 1 := by decide +kernel
theorem hv_X4_mend : yX4_mend.cls = RX4 ∧ yX4_mend.cls ≠ "java/lang/invoke/MethodHandle" ∧ yX4_mend.cls ≠ "java/lang/invoke/VarHandle" ∧ (parseMethodDescriptor yX4_mend.desc).map (fun d => d.parameters.length) = some 1 := by decide +kernel
theorem hv_X4_undo : yX4_undo.cls = RX4 ∧ yX4_undo.cls ≠ "java/lang/invoke/MethodHandle" ∧ yX4_undo.cls ≠ "java/lang/invoke/VarHandle" ∧ (parseMethodDescriptor yX4_undo.desc).map (fun d => d.parameters.length) = some 0 := by decide +kernel
theorem hv_X4_remember : yX4_remember.cls = RX4 ∧ yX4_remember.cls ≠ "java/lang/invoke/MethodHandle" ∧ yX4_remember.cls ≠ "java/lang/invoke/VarHandle" ∧ (parseMethodDescriptor yX4_remember.desc).map (fun d => d.parameters.length) = some 0 := by decide +kernel
theorem hv_X4_count : yX4_count.cls = RX4 ∧ yX4_count.cls ≠ "java/lang/invoke/MethodHandle" ∧ yX4_count.cls ≠ "java/lang/invoke/VarHandle" ∧ (parseMethodDescriptor yX4_count.desc).map (fun d => d.parameters.length) = some 0 := by decide +kernel
theorem hv_X4_isLaw : yX4_isLaw.cls = RX4 ∧ yX4_isLaw.cls ≠ "java/lang/invoke/MethodHandle" ∧ yX4_isLaw.cls ≠ "java/lang/invoke/VarHandle" ∧ (parseMethodDescriptor yX4_isLaw.desc).map (fun d => d.parameters.length) = some 1 := by decide +kernel
theorem hy_X4_isSlot : yX4_isSlot.cls ≠ "java/lang/invoke/MethodHandle" ∧ yX4_isSlot.cls ≠ "java/lang/invoke/VarHandle" ∧ (parseMethodDescriptor yX4_isSlot.desc).map (fun d => d.parameters.length) = some 1 := by decide +kernel
theorem hy_X4_fits : yX4_fits.cls ≠ "java/lang/invoke/MethodHandle" ∧ yX4_fits.cls ≠ "java/lang/invoke/VarHandle" ∧ (parseMethodDescriptor yX4_fits.desc).map (fun d => d.parameters.length) = some 2 := by decide +kernel
theorem hy_X4_canSeek : yX4_canSeek.cls ≠ "java/lang/invoke/MethodHandle" ∧ yX4_canSeek.cls ≠ "java/lang/invoke/VarHandle" ∧ (parseMethodDescriptor yX4_canSeek.desc).map (fun d => d.parameters.length) = some 2 := by decide +kernel
theorem hy_X4_digitOf : yX4_digitOf.cls ≠ "java/lang/invoke/MethodHandle" ∧ yX4_digitOf.cls ≠ "java/lang/invoke/VarHandle" ∧ (parseMethodDescriptor yX4_digitOf.desc).map (fun d => d.parameters.length) = some 2 := by decide +kernel
theorem hy_X4_columnsOf : yX4_columnsOf.cls ≠ "java/lang/invoke/MethodHandle" ∧ yX4_columnsOf.cls ≠ "java/lang/invoke/VarHandle" ∧ (parseMethodDescriptor yX4_columnsOf.desc).map (fun d => d.parameters.length) = some 1 := by decide +kernel
theorem hy_X4_turnedOf : yX4_turnedOf.cls ≠ "java/lang/invoke/MethodHandle" ∧ yX4_turnedOf.cls ≠ "java/lang/invoke/VarHandle" ∧ (parseMethodDescriptor yX4_turnedOf.desc).map (fun d => d.parameters.length) = some 1 := by decide +kernel
theorem hy_X4_covers : yX4_covers.cls ≠ "java/lang/invoke/MethodHandle" ∧ yX4_covers.cls ≠ "java/lang/invoke/VarHandle" ∧ (parseMethodDescriptor yX4_covers.desc).map (fun d => d.parameters.length) = some 2 := by decide +kernel
theorem hy_X4_alikeLaw : yX4_alikeLaw.cls ≠ "java/lang/invoke/MethodHandle" ∧ yX4_alikeLaw.cls ≠ "java/lang/invoke/VarHandle" ∧ (parseMethodDescriptor yX4_alikeLaw.desc).map (fun d => d.parameters.length) = some 1 := by decide +kernel
theorem hy_X5_isIn : yX5_isIn.cls ≠ "java/lang/invoke/MethodHandle" ∧ yX5_isIn.cls ≠ "java/lang/invoke/VarHandle" ∧ (parseMethodDescriptor yX5_isIn.desc).map (fun d => d.parameters.length) = some 3 := by decide +kernel
theorem hv_X5_columns : yX5_columns.cls = RX5 ∧ yX5_columns.cls ≠ "java/lang/invoke/MethodHandle" ∧ yX5_columns.cls ≠ "java/lang/invoke/VarHandle" ∧ (parseMethodDescriptor yX5_columns.desc).map (fun d => d.parameters.length) = some 0 := by decide +kernel
theorem hv_X5_get : yX5_get.cls = RX5 ∧ yX5_get.cls ≠ "java/lang/invoke/MethodHandle" ∧ yX5_get.cls ≠ "java/lang/invoke/VarHandle" ∧ (parseMethodDescriptor yX5_get.desc).map (fun d => d.parameters.length) = some 2 := by decide +kernel
theorem hv_X5_set : yX5_set.cls = RX5 ∧ yX5_set.cls ≠ "java/lang/invoke/MethodHandle" ∧ yX5_set.cls ≠ "java/lang/invoke/VarHandle" ∧ (parseMethodDescriptor yX5_set.desc).map (fun d => d.parameters.length) = some 3 := by decide +kernel
theorem hv_X5_isRow : yX5_isRow.cls = RX5 ∧ yX5_isRow.cls ≠ "java/lang/invoke/MethodHandle" ∧ yX5_isRow.cls ≠ "java/lang/invoke/VarHandle" ∧ (parseMethodDescriptor yX5_isRow.desc).map (fun d => d.parameters.length) = some 1 := by decide +kernel
theorem hv_X5_isColumn : yX5_isColumn.cls = RX5 ∧ yX5_isColumn.cls ≠ "java/lang/invoke/MethodHandle" ∧ yX5_isColumn.cls ≠ "java/lang/invoke/VarHandle" ∧ (parseMethodDescriptor yX5_isColumn.desc).map (fun d => d.parameters.length) = some 1 := by decide +kernel
theorem hv_X5_keep : yX5_keep.cls = RX5 ∧ yX5_keep.cls ≠ "java/lang/invoke/MethodHandle" ∧ yX5_keep.cls ≠ "java/lang/invoke/VarHandle" ∧ (parseMethodDescriptor yX5_keep.desc).map (fun d => d.parameters.length) = some 0 := by decide +kernel
theorem hv_X5_undo : yX5_undo.cls = RX5 ∧ yX5_undo.cls ≠ "java/lang/invoke/MethodHandle" ∧ yX5_undo.cls ≠ "java/lang/invoke/VarHandle" ∧ (parseMethodDescriptor yX5_undo.desc).map (fun d => d.parameters.length) = some 0 := by decide +kernel
theorem hv_X5_table : yX5_table.cls = RX5 ∧ yX5_table.cls ≠ "java/lang/invoke/MethodHandle" ∧ yX5_table.cls ≠ "java/lang/invoke/VarHandle" ∧ (parseMethodDescriptor yX5_table.desc).map (fun d => d.parameters.length) = some 1 := by decide +kernel
theorem hy_X5_isNumber : yX5_isNumber.cls ≠ "java/lang/invoke/MethodHandle" ∧ yX5_isNumber.cls ≠ "java/lang/invoke/VarHandle" ∧ (parseMethodDescriptor yX5_isNumber.desc).map (fun d => d.parameters.length) = some 2 := by decide +kernel
theorem hv_X5_put : yX5_put.cls = RX5 ∧ yX5_put.cls ≠ "java/lang/invoke/MethodHandle" ∧ yX5_put.cls ≠ "java/lang/invoke/VarHandle" ∧ (parseMethodDescriptor yX5_put.desc).map (fun d => d.parameters.length) = some 7 := by decide +kernel
theorem hv_X5_change : yX5_change.cls = RX5 ∧ yX5_change.cls ≠ "java/lang/invoke/MethodHandle" ∧ yX5_change.cls ≠ "java/lang/invoke/VarHandle" ∧ (parseMethodDescriptor yX5_change.desc).map (fun d => d.parameters.length) = some 3 := by decide +kernel
theorem hv_X5_strike : yX5_strike.cls = RX5 ∧ yX5_strike.cls ≠ "java/lang/invoke/MethodHandle" ∧ yX5_strike.cls ≠ "java/lang/invoke/VarHandle" ∧ (parseMethodDescriptor yX5_strike.desc).map (fun d => d.parameters.length) = some 1 := by decide +kernel
theorem hv_X5_price : yX5_price.cls = RX5 ∧ yX5_price.cls ≠ "java/lang/invoke/MethodHandle" ∧ yX5_price.cls ≠ "java/lang/invoke/VarHandle" ∧ (parseMethodDescriptor yX5_price.desc).map (fun d => d.parameters.length) = some 2 := by decide +kernel
theorem hv_X5_swap : yX5_swap.cls = RX5 ∧ yX5_swap.cls ≠ "java/lang/invoke/MethodHandle" ∧ yX5_swap.cls ≠ "java/lang/invoke/VarHandle" ∧ (parseMethodDescriptor yX5_swap.desc).map (fun d => d.parameters.length) = some 2 := by decide +kernel
theorem hv_X5_at : yX5_at.cls = RX5 ∧ yX5_at.cls ≠ "java/lang/invoke/MethodHandle" ∧ yX5_at.cls ≠ "java/lang/invoke/VarHandle" ∧ (parseMethodDescriptor yX5_at.desc).map (fun d => d.parameters.length) = some 2 := by decide +kernel
theorem hv_X5_row : yX5_row.cls = RX5 ∧ yX5_row.cls ≠ "java/lang/invoke/MethodHandle" ∧ yX5_row.cls ≠ "java/lang/invoke/VarHandle" ∧ (parseMethodDescriptor yX5_row.desc).map (fun d => d.parameters.length) = some 2 := by decide +kernel
theorem hv_X5_step : yX5_step.cls = RX5 ∧ yX5_step.cls ≠ "java/lang/invoke/MethodHandle" ∧ yX5_step.cls ≠ "java/lang/invoke/VarHandle" ∧ (parseMethodDescriptor yX5_step.desc).map (fun d => d.parameters.length) = some 3 := by decide +kernel
theorem hy_X5_place : yX5_place.cls ≠ "java/lang/invoke/MethodHandle" ∧ yX5_place.cls ≠ "java/lang/invoke/VarHandle" ∧ (parseMethodDescriptor yX5_place.desc).map (fun d => d.parameters.length) = some 1 := by decide +kernel
theorem hy_X5_digit : yX5_digit.cls ≠ "java/lang/invoke/MethodHandle" ∧ yX5_digit.cls ≠ "java/lang/invoke/VarHandle" ∧ (parseMethodDescriptor yX5_digit.desc).map (fun d => d.parameters.length) = some 2 := by decide +kernel
theorem hv_X5_between0 : yX5_between0.cls = RX5 ∧ yX5_between0.cls ≠ "java/lang/invoke/MethodHandle" ∧ yX5_between0.cls ≠ "java/lang/invoke/VarHandle" ∧ (parseMethodDescriptor yX5_between0.desc).map (fun d => d.parameters.length) = some 2 := by decide +kernel
theorem hv_X5_between : yX5_between.cls = RX5 ∧ yX5_between.cls ≠ "java/lang/invoke/MethodHandle" ∧ yX5_between.cls ≠ "java/lang/invoke/VarHandle" ∧ (parseMethodDescriptor yX5_between.desc).map (fun d => d.parameters.length) = some 2 := by decide +kernel
theorem hv_X5_counts : yX5_counts.cls = RX5 ∧ yX5_counts.cls ≠ "java/lang/invoke/MethodHandle" ∧ yX5_counts.cls ≠ "java/lang/invoke/VarHandle" ∧ (parseMethodDescriptor yX5_counts.desc).map (fun d => d.parameters.length) = some 0 := by decide +kernel
theorem hv_X5_most : yX5_most.cls = RX5 ∧ yX5_most.cls ≠ "java/lang/invoke/MethodHandle" ∧ yX5_most.cls ≠ "java/lang/invoke/VarHandle" ∧ (parseMethodDescriptor yX5_most.desc).map (fun d => d.parameters.length) = some 0 := by decide +kernel
theorem hv_X5_pairs : yX5_pairs.cls = RX5 ∧ yX5_pairs.cls ≠ "java/lang/invoke/MethodHandle" ∧ yX5_pairs.cls ≠ "java/lang/invoke/VarHandle" ∧ (parseMethodDescriptor yX5_pairs.desc).map (fun d => d.parameters.length) = some 1 := by decide +kernel
theorem hv_X5_kinds : yX5_kinds.cls = RX5 ∧ yX5_kinds.cls ≠ "java/lang/invoke/MethodHandle" ∧ yX5_kinds.cls ≠ "java/lang/invoke/VarHandle" ∧ (parseMethodDescriptor yX5_kinds.desc).map (fun d => d.parameters.length) = some 0 := by decide +kernel
theorem hv_X5_isLaw : yX5_isLaw.cls = RX5 ∧ yX5_isLaw.cls ≠ "java/lang/invoke/MethodHandle" ∧ yX5_isLaw.cls ≠ "java/lang/invoke/VarHandle" ∧ (parseMethodDescriptor yX5_isLaw.desc).map (fun d => d.parameters.length) = some 1 := by decide +kernel
theorem hv_X5_turned : yX5_turned.cls = RX5 ∧ yX5_turned.cls ≠ "java/lang/invoke/MethodHandle" ∧ yX5_turned.cls ≠ "java/lang/invoke/VarHandle" ∧ (parseMethodDescriptor yX5_turned.desc).map (fun d => d.parameters.length) = some 1 := by decide +kernel
theorem hv_X5_least0 : yX5_least0.cls = RX5 ∧ yX5_least0.cls ≠ "java/lang/invoke/MethodHandle" ∧ yX5_least0.cls ≠ "java/lang/invoke/VarHandle" ∧ (parseMethodDescriptor yX5_least0.desc).map (fun d => d.parameters.length) = some 1 := by decide +kernel
theorem hv_X5_least : yX5_least.cls = RX5 ∧ yX5_least.cls ≠ "java/lang/invoke/MethodHandle" ∧ yX5_least.cls ≠ "java/lang/invoke/VarHandle" ∧ (parseMethodDescriptor yX5_least.desc).map (fun d => d.parameters.length) = some 1 := by decide +kernel
theorem hv_X5_isSo : yX5_isSo.cls = RX5 ∧ yX5_isSo.cls ≠ "java/lang/invoke/MethodHandle" ∧ yX5_isSo.cls ≠ "java/lang/invoke/VarHandle" ∧ (parseMethodDescriptor yX5_isSo.desc).map (fun d => d.parameters.length) = some 3 := by decide +kernel
theorem hv_X5_breaks : yX5_breaks.cls = RX5 ∧ yX5_breaks.cls ≠ "java/lang/invoke/MethodHandle" ∧ yX5_breaks.cls ≠ "java/lang/invoke/VarHandle" ∧ (parseMethodDescriptor yX5_breaks.desc).map (fun d => d.parameters.length) = some 3 := by decide +kernel
theorem hv_X5_broken0 : yX5_broken0.cls = RX5 ∧ yX5_broken0.cls ≠ "java/lang/invoke/MethodHandle" ∧ yX5_broken0.cls ≠ "java/lang/invoke/VarHandle" ∧ (parseMethodDescriptor yX5_broken0.desc).map (fun d => d.parameters.length) = some 1 := by decide +kernel
theorem hv_X5_broken : yX5_broken.cls = RX5 ∧ yX5_broken.cls ≠ "java/lang/invoke/MethodHandle" ∧ yX5_broken.cls ≠ "java/lang/invoke/VarHandle" ∧ (parseMethodDescriptor yX5_broken.desc).map (fun d => d.parameters.length) = some 1 := by decide +kernel
theorem hv_X5_breaker : yX5_breaker.cls = RX5 ∧ yX5_breaker.cls ≠ "java/lang/invoke/MethodHandle" ∧ yX5_breaker.cls ≠ "java/lang/invoke/VarHandle" ∧ (parseMethodDescriptor yX5_breaker.desc).map (fun d => d.parameters.length) = some 3 := by decide +kernel
theorem hy_X5_saysAll : yX5_saysAll.cls ≠ "java/lang/invoke/MethodHandle" ∧ yX5_saysAll.cls ≠ "java/lang/invoke/VarHandle" ∧ (parseMethodDescriptor yX5_saysAll.desc).map (fun d => d.parameters.length) = some 2 := by decide +kernel
theorem hv_X5_isSaid : yX5_isSaid.cls = RX5 ∧ yX5_isSaid.cls ≠ "java/lang/invoke/MethodHandle" ∧ yX5_isSaid.cls ≠ "java/lang/invoke/VarHandle" ∧ (parseMethodDescriptor yX5_isSaid.desc).map (fun d => d.parameters.length) = some 2 := by decide +kernel
theorem hv_X5_said : yX5_said.cls = RX5 ∧ yX5_said.cls ≠ "java/lang/invoke/MethodHandle" ∧ yX5_said.cls ≠ "java/lang/invoke/VarHandle" ∧ (parseMethodDescriptor yX5_said.desc).map (fun d => d.parameters.length) = some 2 := by decide +kernel
theorem hy_X5_size : yX5_size.cls ≠ "java/lang/invoke/MethodHandle" ∧ yX5_size.cls ≠ "java/lang/invoke/VarHandle" ∧ (parseMethodDescriptor yX5_size.desc).map (fun d => d.parameters.length) = some 1 := by decide +kernel
theorem hv_X5_finds : yX5_finds.cls = RX5 ∧ yX5_finds.cls ≠ "java/lang/invoke/MethodHandle" ∧ yX5_finds.cls ≠ "java/lang/invoke/VarHandle" ∧ (parseMethodDescriptor yX5_finds.desc).map (fun d => d.parameters.length) = some 2 := by decide +kernel
theorem hv_X5_laws : yX5_laws.cls = RX5 ∧ yX5_laws.cls ≠ "java/lang/invoke/MethodHandle" ∧ yX5_laws.cls ≠ "java/lang/invoke/VarHandle" ∧ (parseMethodDescriptor yX5_laws.desc).map (fun d => d.parameters.length) = some 2 := by decide +kernel
theorem hv_X5_law : yX5_law.cls = RX5 ∧ yX5_law.cls ≠ "java/lang/invoke/MethodHandle" ∧ yX5_law.cls ≠ "java/lang/invoke/VarHandle" ∧ (parseMethodDescriptor yX5_law.desc).map (fun d => d.parameters.length) = some 3 := by decide +kernel
theorem hv_X5_sort : yX5_sort.cls = RX5 ∧ yX5_sort.cls ≠ "java/lang/invoke/MethodHandle" ∧ yX5_sort.cls ≠ "java/lang/invoke/VarHandle" ∧ (parseMethodDescriptor yX5_sort.desc).map (fun d => d.parameters.length) = some 1 := by decide +kernel
theorem hv_X5_isSet : yX5_isSet.cls = RX5 ∧ yX5_isSet.cls ≠ "java/lang/invoke/MethodHandle" ∧ yX5_isSet.cls ≠ "java/lang/invoke/VarHandle" ∧ (parseMethodDescriptor yX5_isSet.desc).map (fun d => d.parameters.length) = some 1 := by decide +kernel
theorem hv_X5_alikeIn : yX5_alikeIn.cls = RX5 ∧ yX5_alikeIn.cls ≠ "java/lang/invoke/MethodHandle" ∧ yX5_alikeIn.cls ≠ "java/lang/invoke/VarHandle" ∧ (parseMethodDescriptor yX5_alikeIn.desc).map (fun d => d.parameters.length) = some 3 := by decide +kernel
theorem hv_X5_settles : yX5_settles.cls = RX5 ∧ yX5_settles.cls ≠ "java/lang/invoke/MethodHandle" ∧ yX5_settles.cls ≠ "java/lang/invoke/VarHandle" ∧ (parseMethodDescriptor yX5_settles.desc).map (fun d => d.parameters.length) = some 1 := by decide +kernel
theorem hv_X5_isKey : yX5_isKey.cls = RX5 ∧ yX5_isKey.cls ≠ "java/lang/invoke/MethodHandle" ∧ yX5_isKey.cls ≠ "java/lang/invoke/VarHandle" ∧ (parseMethodDescriptor yX5_isKey.desc).map (fun d => d.parameters.length) = some 1 := by decide +kernel
theorem hv_X5_isLeastKey : yX5_isLeastKey.cls = RX5 ∧ yX5_isLeastKey.cls ≠ "java/lang/invoke/MethodHandle" ∧ yX5_isLeastKey.cls ≠ "java/lang/invoke/VarHandle" ∧ (parseMethodDescriptor yX5_isLeastKey.desc).map (fun d => d.parameters.length) = some 1 := by decide +kernel
theorem hv_X5_keys : yX5_keys.cls = RX5 ∧ yX5_keys.cls ≠ "java/lang/invoke/MethodHandle" ∧ yX5_keys.cls ≠ "java/lang/invoke/VarHandle" ∧ (parseMethodDescriptor yX5_keys.desc).map (fun d => d.parameters.length) = some 0 := by decide +kernel
theorem hv_X5_key : yX5_key.cls = RX5 ∧ yX5_key.cls ≠ "java/lang/invoke/MethodHandle" ∧ yX5_key.cls ≠ "java/lang/invoke/VarHandle" ∧ (parseMethodDescriptor yX5_key.desc).map (fun d => d.parameters.length) = some 1 := by decide +kernel
theorem hv_X5_tell : yX5_tell.cls = RX5 ∧ yX5_tell.cls ≠ "java/lang/invoke/MethodHandle" ∧ yX5_tell.cls ≠ "java/lang/invoke/VarHandle" ∧ (parseMethodDescriptor yX5_tell.desc).map (fun d => d.parameters.length) = some 2 := by decide +kernel
theorem hv_X5_told : yX5_told.cls = RX5 ∧ yX5_told.cls ≠ "java/lang/invoke/MethodHandle" ∧ yX5_told.cls ≠ "java/lang/invoke/VarHandle" ∧ (parseMethodDescriptor yX5_told.desc).map (fun d => d.parameters.length) = some 1 := by decide +kernel
theorem hv_X5_conflicts : yX5_conflicts.cls = RX5 ∧ yX5_conflicts.cls ≠ "java/lang/invoke/MethodHandle" ∧ yX5_conflicts.cls ≠ "java/lang/invoke/VarHandle" ∧ (parseMethodDescriptor yX5_conflicts.desc).map (fun d => d.parameters.length) = some 0 := by decide +kernel
theorem hv_X5_mend : yX5_mend.cls = RX5 ∧ yX5_mend.cls ≠ "java/lang/invoke/MethodHandle" ∧ yX5_mend.cls ≠ "java/lang/invoke/VarHandle" ∧ (parseMethodDescriptor yX5_mend.desc).map (fun d => d.parameters.length) = some 1 := by decide +kernel
theorem hy_J6_bitCount_0f7a4 : yJ6_bitCount_0f7a4.cls ≠ "java/lang/invoke/MethodHandle" ∧ yJ6_bitCount_0f7a4.cls ≠ "java/lang/invoke/VarHandle" ∧ (parseMethodDescriptor yJ6_bitCount_0f7a4.desc).map (fun d => d.parameters.length) = some 1 := by decide +kernel
theorem hy_J7_fill_53178 : yJ7_fill_53178.cls ≠ "java/lang/invoke/MethodHandle" ∧ yJ7_fill_53178.cls ≠ "java/lang/invoke/VarHandle" ∧ (parseMethodDescriptor yJ7_fill_53178.desc).map (fun d => d.parameters.length) = some 2 := by decide +kernel
