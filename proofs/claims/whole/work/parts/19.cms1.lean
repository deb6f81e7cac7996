/-! CONTRACTS -/
theorem cm_X4_isSlot (l : Launch) (E : Ex) : CM l SH E yX4_isSlot cX4_isSlot 1 (some .boolean) 0 f_X4_isSlot := by
  refine cm_of (own := RX4) (T := T_X4_isSlot E ev_X4_isSlot) (K := K_X4_isSlot) (by decide) rfl (by simp) (fun p e s m args below meth c Q D C A ad X => ts_X4_isSlot (d := 0) X ⟨Nat.le_refl _, Nat.le_refl _⟩ ⟨Nat.le_refl _, Nat.le_refl _⟩ ) (fun as g h => ?_)
  unfold f_X4_isSlot at h ⊢
  dsimp only at h ⊢
  split at h
  · exact ⟨by simp, by simp, run_X4_isSlot E g _ h⟩
  · cases h
theorem cm_X4_fits (l : Launch) (E : Ex) : CM l SH E yX4_fits cX4_fits 2 (some .boolean) 0 f_X4_fits := by
  refine cm_of (own := RX4) (T := T_X4_fits E ev_X4_fits) (K := K_X4_fits) (by decide) rfl (by simp) (fun p e s m args below meth c Q D C A ad X => ts_X4_fits (d := 0) X ⟨Nat.le_refl _, Nat.le_refl _⟩ ⟨Nat.le_refl _, Nat.le_refl _⟩ ) (fun as g h => ?_)
  unfold f_X4_fits at h ⊢
  dsimp only at h ⊢
  split at h
  · exact ⟨by simp, by simp, run_X4_fits E g _ _ h⟩
  · cases h
theorem cm_X4_canSeek (l : Launch) (E : Ex) : CM l SH E yX4_canSeek cX4_canSeek 2 (some .boolean) 0 f_X4_canSeek := by
  refine cm_of (own := RX4) (T := T_X4_canSeek E ev_X4_canSeek) (K := K_X4_canSeek) (by decide) rfl (by simp) (fun p e s m args below meth c Q D C A ad X => ts_X4_canSeek (d := 0) X ⟨Nat.le_refl _, Nat.le_refl _⟩ ⟨Nat.le_refl _, Nat.le_refl _⟩ ) (fun as g h => ?_)
  unfold f_X4_canSeek at h ⊢
  dsimp only at h ⊢
  split at h
  · exact ⟨by simp, by simp, run_X4_canSeek E g _ _ h⟩
  · cases h
theorem cm_X4_isLaw (l : Launch) (E : Ex) : CM l SH E yX4_isLaw cX4_isLaw 2 (some .boolean) 0 f_X4_isLaw := by
  refine cm_of (own := RX4) (T := T_X4_isLaw E ev_X4_isLaw) (K := K_X4_isLaw) (by decide) rfl (by simp) (fun p e s m args below meth c Q D C A ad X => ts_X4_isLaw (d := 0) X ⟨Nat.le_refl _, Nat.le_refl _⟩ ⟨Nat.le_refl _, Nat.le_refl _⟩ ) (fun as g h => ?_)
  unfold f_X4_isLaw at h ⊢
  dsimp only at h ⊢
  split at h
  · exact ⟨by simp, by simp, run_X4_isLaw E g _ h⟩
  · cases h
theorem cm_X4_digitOf (l : Launch) (E : Ex) : CM l SH E yX4_digitOf cX4_digitOf 2 (some .int) 0 f_X4_digitOf := by
  refine cm_of (own := RX4) (T := T_X4_digitOf E ev_X4_digitOf) (K := K_X4_digitOf) (by decide) rfl (by simp) (fun p e s m args below meth c Q D C A ad X => ts_X4_digitOf (d := 0) X ⟨Nat.le_refl _, Nat.le_refl _⟩ ⟨Nat.le_refl _, Nat.le_refl _⟩ ) (fun as g h => ?_)
  unfold f_X4_digitOf at h ⊢
  dsimp only at h ⊢
  split at h
  · exact ⟨by simp, by simp, run_X4_digitOf E g _ _ h⟩
  · cases h
theorem cm_X4_columnsOf (l : Launch) (E : Ex) : CM l SH E yX4_columnsOf cX4_columnsOf 3 (some .int) 1 f_X4_columnsOf := by
  refine cm_of (own := RX4) (T := T_X4_columnsOf E ev_X4_columnsOf) (K := K_X4_columnsOf) (by decide) rfl (by simp) (fun p e s m args below meth c Q D C A ad X => ts_X4_columnsOf (d := 1) X ⟨Nat.le_refl _, Nat.le_refl _⟩ ⟨Nat.le_refl _, Nat.le_refl _⟩ (cm_X4_digitOf l E) (by decide)) (fun as g h => ?_)
  unfold f_X4_columnsOf at h ⊢
  dsimp only at h ⊢
  split at h
  · exact ⟨by simp, by simp, run_X4_columnsOf E g _ h⟩
  · cases h
theorem cm_X4_turnedOf (l : Launch) (E : Ex) : CM l SH E yX4_turnedOf cX4_turnedOf 4 (some .int) 1 f_X4_turnedOf := by
  refine cm_of (own := RX4) (T := T_X4_turnedOf E ev_X4_turnedOf) (K := K_X4_turnedOf) (by decide) rfl (by simp) (fun p e s m args below meth c Q D C A ad X => ts_X4_turnedOf (d := 1) X ⟨Nat.le_refl _, Nat.le_refl _⟩ ⟨Nat.le_refl _, Nat.le_refl _⟩ (cm_X4_digitOf l E) (by decide)) (fun as g h => ?_)
  unfold f_X4_turnedOf at h ⊢
  dsimp only at h ⊢
  split at h
  · exact ⟨by simp, by simp, run_X4_turnedOf E g _ h⟩
  · cases h
theorem cm_X4_covers (l : Launch) (E : Ex) : CM l SH E yX4_covers cX4_covers 5 (some .boolean) 1 f_X4_covers := by
  refine cm_of (own := RX4) (T := T_X4_covers E ev_X4_covers) (K := K_X4_covers) (by decide) rfl (by simp) (fun p e s m args below meth c Q D C A ad X => ts_X4_covers (d := 1) X ⟨Nat.le_refl _, Nat.le_refl _⟩ ⟨Nat.le_refl _, Nat.le_refl _⟩ (cm_X4_digitOf l E) (by decide)) (fun as g h => ?_)
  unfold f_X4_covers at h ⊢
  dsimp only at h ⊢
  split at h
  · exact ⟨by simp, by simp, run_X4_covers E g _ _ h⟩
  · cases h
theorem cm_X4_alikeLaw (l : Launch) (E : Ex) : CM l SH E yX4_alikeLaw cX4_alikeLaw 3 (some .int) 0 f_X4_alikeLaw := by
  refine cm_of (own := RX4) (T := T_X4_alikeLaw E ev_X4_alikeLaw) (K := K_X4_alikeLaw) (by decide) rfl (by simp) (fun p e s m args below meth c Q D C A ad X => ts_X4_alikeLaw (d := 0) X ⟨Nat.le_refl _, Nat.le_refl _⟩ ⟨Nat.le_refl _, Nat.le_refl _⟩ ) (fun as g h => ?_)
  unfold f_X4_alikeLaw at h ⊢
  dsimp only at h ⊢
  split at h
  · exact ⟨by simp, by simp, run_X4_alikeLaw E g _ h⟩
  · cases h
theorem cm_X2_word (l : Launch) (E : Ex) : CM l SH E yX2_word cX2_word 2 (some .int) 0 f_X2_word := by
  refine cm_of (own := RX2) (T := T_X2_word E ev_X2_word) (K := K_X2_word) (by decide) rfl (by simp) (fun p e s m args below meth c Q D C A ad X => ts_X2_word (d := 0) X ⟨Nat.le_refl _, Nat.le_refl _⟩ ⟨Nat.le_refl _, Nat.le_refl _⟩ ) (fun as g h => ?_)
  unfold f_X2_word at h ⊢
  dsimp only at h ⊢
  split at h
  · exact ⟨by simp, by simp, run_X2_word E g _ _ h⟩
  · cases h
theorem cm_X2_hasRow (l : Launch) (E : Ex) : CM l SH E yX2_hasRow cX2_hasRow 2 (some .boolean) 1 f_X2_hasRow := by
  refine cm_of (own := RX2) (T := T_X2_hasRow E ev_X2_hasRow) (K := K_X2_hasRow) (by decide) rfl (by simp) (fun p e s m args below meth c Q D C A ad X => ts_X2_hasRow (d := 1) X ⟨Nat.le_refl _, Nat.le_refl _⟩ ⟨Nat.le_refl _, Nat.le_refl _⟩ (cm_X4_isSlot l E) (by decide)) (fun as g h => ?_)
  unfold f_X2_hasRow at h ⊢
  dsimp only at h ⊢
  split at h
  · exact ⟨by simp, by simp, run_X2_hasRow E g _ h⟩
  · cases h
theorem cm_X2_hasColumn (l : Launch) (E : Ex) : CM l SH E yX2_hasColumn cX2_hasColumn 2 (some .boolean) 0 f_X2_hasColumn := by
  refine cm_of (own := RX2) (T := T_X2_hasColumn E ev_X2_hasColumn) (K := K_X2_hasColumn) (by decide) rfl (by simp) (fun p e s m args below meth c Q D C A ad X => ts_X2_hasColumn (d := 0) X ⟨Nat.le_refl _, Nat.le_refl _⟩ ⟨Nat.le_refl _, Nat.le_refl _⟩ ) (fun as g h => ?_)
  unfold f_X2_hasColumn at h ⊢
  dsimp only at h ⊢
  split at h
  · exact ⟨by simp, by simp, run_X2_hasColumn E g _ h⟩
  · cases h
theorem cm_X2_read (l : Launch) (E : Ex) : CM l SH E yX2_read cX2_read 3 (some .int) 0 f_X2_read := by
  refine cm_of (own := RX2) (T := T_X2_read E ev_X2_read) (K := K_X2_read) (by decide) rfl (by simp) (fun p e s m args below meth c Q D C A ad X => ts_X2_read (d := 0) X ⟨Nat.le_refl _, Nat.le_refl _⟩ ⟨Nat.le_refl _, Nat.le_refl _⟩ ) (fun as g h => ?_)
  unfold f_X2_read at h ⊢
  dsimp only at h ⊢
  split at h
  · exact ⟨by simp, by simp, run_X2_read E g _ _ h⟩
  · cases h
theorem cm_X2_write (l : Launch) (E : Ex) : CM l SH E yX2_write cX2_write 4 (none) 0 f_X2_write := by
  refine cm_of (own := RX2) (T := T_X2_write E ev_X2_write) (K := K_X2_write) (by decide) rfl (by simp) (fun p e s m args below meth c Q D C A ad X => ts_X2_write (d := 0) X ⟨Nat.le_refl _, Nat.le_refl _⟩ ⟨Nat.le_refl _, Nat.le_refl _⟩ ) (fun as g h => ?_)
  unfold f_X2_write at h ⊢
  dsimp only at h ⊢
  split at h
  · exact ⟨by simp, by simp, run_X2_write E g _ _ _ h⟩
  · cases h
theorem cm_X2_seat (l : Launch) (E : Ex) : CM l SH E yX2_seat cX2_seat 4 (none) 0 f_X2_seat := by
  refine cm_of (own := RX2) (T := T_X2_seat E ev_X2_seat) (K := K_X2_seat) (by decide) rfl (by simp) (fun p e s m args below meth c Q D C A ad X => ts_X2_seat (d := 0) X ⟨Nat.le_refl _, Nat.le_refl _⟩ ⟨Nat.le_refl _, Nat.le_refl _⟩ ) (fun as g h => ?_)
  unfold f_X2_seat at h ⊢
  dsimp only at h ⊢
  split at h
  · exact ⟨by simp, by simp, run_X2_seat E g _ _ _ h⟩
  · cases h
theorem cm_X2_shortest (l : Launch) (E : Ex) : CM l SH E yX2_shortest cX2_shortest 3 (some .int) 2 f_X2_shortest := by
  refine cm_of (own := RX2) (T := T_X2_shortest E ev_X2_shortest) (K := K_X2_shortest) (by decide) rfl (by simp) (fun p e s m args below meth c Q D C A ad X => ts_X2_shortest (d := 2) X ⟨Nat.le_refl _, Nat.le_refl _⟩ ⟨Nat.le_refl _, Nat.le_refl _⟩ (by decide) (cm_X2_hasRow l E) (by decide)) (fun as g h => ?_)
  unfold f_X2_shortest at h ⊢
  dsimp only at h ⊢
  split at h
  · exact ⟨by simp, by simp, run_X2_shortest E g  h⟩
  · cases h
theorem cm_X2_exchange (l : Launch) (E : Ex) : CM l SH E yX2_exchange cX2_exchange 5 (none) 0 f_X2_exchange := by
  refine cm_of (own := RX2) (T := T_X2_exchange E ev_X2_exchange) (K := K_X2_exchange) (by decide) rfl (by simp) (fun p e s m args below meth c Q D C A ad X => ts_X2_exchange (d := 0) X ⟨Nat.le_refl _, Nat.le_refl _⟩ ⟨Nat.le_refl _, Nat.le_refl _⟩ ) (fun as g h => ?_)
  unfold f_X2_exchange at h ⊢
  dsimp only at h ⊢
  split at h
  · exact ⟨by simp, by simp, run_X2_exchange E g _ _ h⟩
  · cases h
theorem cm_X2_compared (l : Launch) (E : Ex) : CM l SH E yX2_compared cX2_compared 5 (some .int) 1 f_X2_compared := by
  refine cm_of (own := RX2) (T := T_X2_compared E ev_X2_compared) (K := K_X2_compared) (by decide) rfl (by simp) (fun p e s m args below meth c Q D C A ad X => ts_X2_compared (d := 1) X ⟨Nat.le_refl _, Nat.le_refl _⟩ ⟨Nat.le_refl _, Nat.le_refl _⟩ (cm_X2_read l E) (by decide) (cm_X2_word l E) (by decide)) (fun as g h => ?_)
  unfold f_X2_compared at h ⊢
  dsimp only at h ⊢
  split at h
  · exact ⟨by simp, by simp, run_X2_compared E g _ _ h⟩
  · cases h
theorem cm_X2_pairBreaks (l : Launch) (E : Ex) : CM l SH E yX2_pairBreaks cX2_pairBreaks 5 (some .boolean) 2 f_X2_pairBreaks := by
  refine cm_of (own := RX2) (T := T_X2_pairBreaks E ev_X2_pairBreaks) (K := K_X2_pairBreaks) (by decide) rfl (by simp) (fun p e s m args below meth c Q D C A ad X => ts_X2_pairBreaks (d := 2) X ⟨Nat.le_refl _, Nat.le_refl _⟩ ⟨Nat.le_refl _, Nat.le_refl _⟩ (cm_X2_hasRow l E) (by decide) (cm_X2_compared l E) (by decide) (cm_X4_covers l E) (by decide) (cm_X4_turnedOf l E) (by decide)) (fun as g h => ?_)
  unfold f_X2_pairBreaks at h ⊢
  dsimp only at h ⊢
  split at h
  · exact ⟨by simp, by simp, run_X2_pairBreaks E g _ _ _ h⟩
  · cases h
theorem cm_X3_sumUp (l : Launch) (E : Ex) : CM l SH E yX3_sumUp cX3_sumUp 6 (none) 1 f_X3_sumUp := by
  refine cm_of (own := RX3) (T := T_X3_sumUp E ev_X3_sumUp) (K := K_X3_sumUp) (by decide) rfl (by simp) (fun p e s m args below meth c Q D C A ad X => ts_X3_sumUp (d := 1) X ⟨Nat.le_refl _, Nat.le_refl _⟩ ⟨Nat.le_refl _, Nat.le_refl _⟩ (cm_X4_digitOf l E) (by decide)) (fun as g h => ?_)
  unfold f_X3_sumUp at h ⊢
  dsimp only at h ⊢
  split at h
  · exact ⟨by simp, by simp, run_X3_sumUp E g _ _ h⟩
  · cases h
theorem cm_X3_halveEven (l : Launch) (E : Ex) : CM l SH E yX3_halveEven cX3_halveEven 3 (none) 2 f_X3_halveEven := by
  refine cm_of (own := RX3) (T := T_X3_halveEven E ev_X3_halveEven) (K := K_X3_halveEven) (by decide) rfl (by simp) (fun p e s m args below meth c Q D C A ad X => ts_X3_halveEven (d := 2) X ⟨Nat.le_refl _, Nat.le_refl _⟩ ⟨Nat.le_refl _, Nat.le_refl _⟩ (cm_X4_turnedOf l E) (by decide)) (fun as g h => ?_)
  unfold f_X3_halveEven at h ⊢
  dsimp only at h ⊢
  split at h
  · exact ⟨by simp, by simp, run_X3_halveEven E g _ h⟩
  · cases h
theorem cm_X3_unlikeSeen (l : Launch) (E : Ex) : CM l SH E yX3_unlikeSeen cX3_unlikeSeen 3 (some .int) 0 f_X3_unlikeSeen := by
  refine cm_of (own := RX3) (T := T_X3_unlikeSeen E ev_X3_unlikeSeen) (K := K_X3_unlikeSeen) (by decide) rfl (by simp) (fun p e s m args below meth c Q D C A ad X => ts_X3_unlikeSeen (d := 0) X ⟨Nat.le_refl _, Nat.le_refl _⟩ ⟨Nat.le_refl _, Nat.le_refl _⟩ ) (fun as g h => ?_)
  unfold f_X3_unlikeSeen at h ⊢
  dsimp only at h ⊢
  split at h
  · exact ⟨by simp, by simp, run_X3_unlikeSeen E g  h⟩
  · cases h
theorem cm_X3_hasWiderNear (l : Launch) (E : Ex) : CM l SH E yX3_hasWiderNear cX3_hasWiderNear 6 (some .boolean) 1 f_X3_hasWiderNear := by
  refine cm_of (own := RX3) (T := T_X3_hasWiderNear E ev_X3_hasWiderNear) (K := K_X3_hasWiderNear) (by decide) rfl (by simp) (fun p e s m args below meth c Q D C A ad X => ts_X3_hasWiderNear (d := 1) X ⟨Nat.le_refl _, Nat.le_refl _⟩ ⟨Nat.le_refl _, Nat.le_refl _⟩ (cm_X4_digitOf l E) (by decide)) (fun as g h => ?_)
  unfold f_X3_hasWiderNear at h ⊢
  dsimp only at h ⊢
  split at h
  · exact ⟨by simp, by simp, run_X3_hasWiderNear E g _ _ h⟩
  · cases h
theorem cm_X3_isFound (l : Launch) (E : Ex) : CM l SH E yX3_isFound cX3_isFound 4 (some .boolean) 2 f_X3_isFound := by
  refine cm_of (own := RX3) (T := T_X3_isFound E ev_X3_isFound) (K := K_X3_isFound) (by decide) rfl (by simp) (fun p e s m args below meth c Q D C A ad X => ts_X3_isFound (d := 2) X ⟨Nat.le_refl _, Nat.le_refl _⟩ ⟨Nat.le_refl _, Nat.le_refl _⟩ (cm_X4_columnsOf l E) (by decide) (cm_X4_turnedOf l E) (by decide) (cm_X3_hasWiderNear l E) (by decide)) (fun as g h => ?_)
  unfold f_X3_isFound at h ⊢
  dsimp only at h ⊢
  split at h
  · exact ⟨by simp, by simp, run_X3_isFound E g _ _ _ h⟩
  · cases h
theorem cm_X3_isLeastKey (l : Launch) (E : Ex) : CM l SH E yX3_isLeastKey cX3_isLeastKey 3 (some .boolean) 1 f_X3_isLeastKey := by
  refine cm_of (own := RX3) (T := T_X3_isLeastKey E ev_X3_isLeastKey) (K := K_X3_isLeastKey) (by decide) rfl (by simp) (fun p e s m args below meth c Q D C A ad X => ts_X3_isLeastKey (d := 1) X ⟨Nat.le_refl _, Nat.le_refl _⟩ ⟨Nat.le_refl _, Nat.le_refl _⟩ (cm_X4_alikeLaw l E) (by decide)) (fun as g h => ?_)
  unfold f_X3_isLeastKey at h ⊢
  dsimp only at h ⊢
  split at h
  · exact ⟨by simp, by simp, run_X3_isLeastKey E g _ h⟩
  · cases h
theorem cm_J7_fill_53178 (l : Launch) (E : Ex) : CM l SH E yJ7_fill_53178 cJ7_fill_53178 4 (none) 0 f_J7_fill_53178 := by
  refine cm_of (own := RJ7) (T := T_J7_fill_53178 E ev_J7_fill_53178) (K := K_J7_fill_53178) (by decide) rfl (by simp) (fun p e s m args below meth c Q D C A ad X => ts_J7_fill_53178 (d := 0) X ⟨Nat.le_refl _, Nat.le_refl _⟩ ⟨Nat.le_refl _, Nat.le_refl _⟩ ) (fun as g h => ?_)
  unfold f_J7_fill_53178 at h ⊢
  dsimp only at h ⊢
  split at h
  · exact ⟨by simp, by simp, run_J7_fill_53178 E g _ _ h⟩
  · cases h
theorem cm_X3_recount (l : Launch) (E : Ex) : CM l SH E yX3_recount cX3_recount 4 (none) 3 f_X3_recount := by
  refine cm_of (own := RX3) (T := T_X3_recount E ev_X3_recount) (K := K_X3_recount) (by decide) rfl (by simp) (fun p e s m args below meth c Q D C A ad X => ts_X3_recount (d := 3) X ⟨Nat.le_refl _, Nat.le_refl _⟩ ⟨Nat.le_refl _, Nat.le_refl _⟩ (by decide) (cm_J7_fill_53178 l E) (by decide) (cm_X2_hasRow l E) (by decide) (cm_X2_compared l E) (by decide) (cm_X3_sumUp l E) (by decide) (cm_X3_halveEven l E) (by decide)) (fun as g h => ?_)
  unfold f_X3_recount at h ⊢
  dsimp only at h ⊢
  split at h
  · exact ⟨by simp, by simp, run_X3_recount E g  h⟩
  · cases h
theorem cm_X5_isIn (l : Launch) (E : Ex) : CM l SH E yX5_isIn cX5_isIn 3 (some .boolean) 0 f_X5_isIn := by
  refine cm_of (own := RX5) (T := T_X5_isIn E ev_X5_isIn) (K := K_X5_isIn) (by decide) rfl (by simp) (fun p e s m args below meth c Q D C A ad X => ts_X5_isIn (d := 0) X ⟨Nat.le_refl _, Nat.le_refl _⟩ ⟨Nat.le_refl _, Nat.le_refl _⟩ ) (fun as g h => ?_)
  unfold f_X5_isIn at h ⊢
  dsimp only at h ⊢
  split at h
  · exact ⟨by simp, by simp, run_X5_isIn E g _ _ _ h⟩
  · cases h
theorem cm_X5_columns (l : Launch) (E : Ex) : CM l SH E yX5_columns cX5_columns 1 (some .int) 0 f_X5_columns := by
  refine cm_of (own := RX5) (T := T_X5_columns E ev_X5_columns) (K := K_X5_columns) (by decide) rfl (by simp) (fun p e s m args below meth c Q D C A ad X => ts_X5_columns (d := 0) X ⟨Nat.le_refl _, Nat.le_refl _⟩ ⟨Nat.le_refl _, Nat.le_refl _⟩ ) (fun as g h => ?_)
  unfold f_X5_columns at h ⊢
  dsimp only at h ⊢
  split at h
  · exact ⟨by simp, by simp, run_X5_columns E g  h⟩
  · cases h
theorem cm_X5_get (l : Launch) (E : Ex) : CM l SH E yX5_get cX5_get 3 (some .int) 0 f_X5_get := by
  refine cm_of (own := RX5) (T := T_X5_get E ev_X5_get) (K := K_X5_get) (by decide) rfl (by simp) (fun p e s m args below meth c Q D C A ad X => ts_X5_get (d := 0) X ⟨Nat.le_refl _, Nat.le_refl _⟩ ⟨Nat.le_refl _, Nat.le_refl _⟩ ) (fun as g h => ?_)
  unfold f_X5_get at h ⊢
  dsimp only at h ⊢
  split at h
  · exact ⟨by simp, by simp, run_X5_get E g _ _ h⟩
  · cases h
theorem cm_X5_set (l : Launch) (E : Ex) : CM l SH E yX5_set cX5_set 4 (none) 0 f_X5_set := by
  refine cm_of (own := RX5) (T := T_X5_set E ev_X5_set) (K := K_X5_set) (by decide) rfl (by simp) (fun p e s m args below meth c Q D C A ad X => ts_X5_set (d := 0) X ⟨Nat.le_refl _, Nat.le_refl _⟩ ⟨Nat.le_refl _, Nat.le_refl _⟩ ) (fun as g h => ?_)
  unfold f_X5_set at h ⊢
  dsimp only at h ⊢
  split at h
  · exact ⟨by simp, by simp, run_X5_set E g _ _ _ h⟩
  · cases h
theorem cm_X5_isRow (l : Launch) (E : Ex) : CM l SH E yX5_isRow cX5_isRow 2 (some .boolean) 1 f_X5_isRow := by
  refine cm_of (own := RX5) (T := T_X5_isRow E ev_X5_isRow) (K := K_X5_isRow) (by decide) rfl (by simp) (fun p e s m args below meth c Q D C A ad X => ts_X5_isRow (d := 1) X ⟨Nat.le_refl _, Nat.le_refl _⟩ ⟨Nat.le_refl _, Nat.le_refl _⟩ (cm_X5_isIn l E) (by decide) (cm_X5_get l E) (by decide)) (fun as g h => ?_)
  unfold f_X5_isRow at h ⊢
  dsimp only at h ⊢
  split at h
  · exact ⟨by simp, by simp, run_X5_isRow E g _ h⟩
  · cases h
theorem cm_X5_isColumn (l : Launch) (E : Ex) : CM l SH E yX5_isColumn cX5_isColumn 2 (some .boolean) 1 f_X5_isColumn := by
  refine cm_of (own := RX5) (T := T_X5_isColumn E ev_X5_isColumn) (K := K_X5_isColumn) (by decide) rfl (by simp) (fun p e s m args below meth c Q D C A ad X => ts_X5_isColumn (d := 1) X ⟨Nat.le_refl _, Nat.le_refl _⟩ ⟨Nat.le_refl _, Nat.le_refl _⟩ (cm_X5_columns l E) (by decide) (cm_X5_isIn l E) (by decide)) (fun as g h => ?_)
  unfold f_X5_isColumn at h ⊢
  dsimp only at h ⊢
  split at h
  · exact ⟨by simp, by simp, run_X5_isColumn E g _ h⟩
  · cases h
theorem cm_X5_isNumber (l : Launch) (E : Ex) : CM l SH E yX5_isNumber cX5_isNumber 2 (some .boolean) 1 f_X5_isNumber := by
  refine cm_of (own := RX5) (T := T_X5_isNumber E ev_X5_isNumber) (K := K_X5_isNumber) (by decide) rfl (by simp) (fun p e s m args below meth c Q D C A ad X => ts_X5_isNumber (d := 1) X ⟨Nat.le_refl _, Nat.le_refl _⟩ ⟨Nat.le_refl _, Nat.le_refl _⟩ (cm_X5_isIn l E) (by decide)) (fun as g h => ?_)
  unfold f_X5_isNumber at h ⊢
  dsimp only at h ⊢
  split at h
  · exact ⟨by simp, by simp, run_X5_isNumber E g _ _ h⟩
  · cases h
theorem cm_X5_step (l : Launch) (E : Ex) : CM l SH E yX5_step cX5_step 6 (some .int) 1 f_X5_step := by
  refine cm_of (own := RX5) (T := T_X5_step E ev_X5_step) (K := K_X5_step) (by decide) rfl (by simp) (fun p e s m args below meth c Q D C A ad X => ts_X5_step (d := 1) X ⟨Nat.le_refl _, Nat.le_refl _⟩ ⟨Nat.le_refl _, Nat.le_refl _⟩ (cm_X5_get l E) (by decide)) (fun as g h => ?_)
  unfold f_X5_step at h ⊢
  dsimp only at h ⊢
  split at h
  · exact ⟨by simp, by simp, run_X5_step E g _ _ _ h⟩
  · cases h
theorem cm_X5_place (l : Launch) (E : Ex) : CM l SH E yX5_place cX5_place 1 (some .int) 0 f_X5_place := by
  refine cm_of (own := RX5) (T := T_X5_place E ev_X5_place) (K := K_X5_place) (by decide) rfl (by simp) (fun p e s m args below meth c Q D C A ad X => ts_X5_place (d := 0) X ⟨Nat.le_refl _, Nat.le_refl _⟩ ⟨Nat.le_refl _, Nat.le_refl _⟩ ) (fun as g h => ?_)
  unfold f_X5_place at h ⊢
  dsimp only at h ⊢
  split at h
  · exact ⟨by simp, by simp, run_X5_place E g _ h⟩
  · cases h
theorem cm_X5_digit (l : Launch) (E : Ex) : CM l SH E yX5_digit cX5_digit 2 (some .int) 1 f_X5_digit := by
  refine cm_of (own := RX5) (T := T_X5_digit E ev_X5_digit) (K := K_X5_digit) (by decide) rfl (by simp) (fun p e s m args below meth c Q D C A ad X => ts_X5_digit (d := 1) X ⟨Nat.le_refl _, Nat.le_refl _⟩ ⟨Nat.le_refl _, Nat.le_refl _⟩ (cm_X5_place l E) (by decide)) (fun as g h => ?_)
  unfold f_X5_digit at h ⊢
  dsimp only at h ⊢
  split at h
  · exact ⟨by simp, by simp, run_X5_digit E g _ _ h⟩
  · cases h
theorem cm_X5_between0 (l : Launch) (E : Ex) : CM l SH E yX5_between0 cX5_between0 5 (some .int) 2 f_X5_between0 := by
  refine cm_of (own := RX5) (T := T_X5_between0 E ev_X5_between0) (K := K_X5_between0) (by decide) rfl (by simp) (fun p e s m args below meth c Q D C A ad X => ts_X5_between0 (d := 2) X ⟨Nat.le_refl _, Nat.le_refl _⟩ ⟨Nat.le_refl _, Nat.le_refl _⟩ (cm_X5_columns l E) (by decide) (cm_X5_place l E) (by decide) (cm_X5_step l E) (by decide)) (fun as g h => ?_)
  unfold f_X5_between0 at h ⊢
  dsimp only at h ⊢
  split at h
  · exact ⟨by simp, by simp, run_X5_between0 E g _ _ h⟩
  · cases h
theorem cm_X5_counts (l : Launch) (E : Ex) : CM l SH E yX5_counts cX5_counts 3 (none) 3 f_X5_counts := by
  refine cm_of (own := RX5) (T := T_X5_counts E ev_X5_counts) (K := K_X5_counts) (by decide) rfl (by simp) (fun p e s m args below meth c Q D C A ad X => ts_X5_counts (d := 3) X ⟨Nat.le_refl _, Nat.le_refl _⟩ ⟨Nat.le_refl _, Nat.le_refl _⟩ (cm_X5_isRow l E) (by decide) (cm_X5_between0 l E) (by decide)) (fun as g h => ?_)
  unfold f_X5_counts at h ⊢
  dsimp only at h ⊢
  split at h
  · exact ⟨by simp, by simp, run_X5_counts E g  h⟩
  · cases h
theorem cm_X5_most (l : Launch) (E : Ex) : CM l SH E yX5_most cX5_most 1 (some .int) 1 f_X5_most := by
  refine cm_of (own := RX5) (T := T_X5_most E ev_X5_most) (K := K_X5_most) (by decide) rfl (by simp) (fun p e s m args below meth c Q D C A ad X => ts_X5_most (d := 1) X ⟨Nat.le_refl _, Nat.le_refl _⟩ ⟨Nat.le_refl _, Nat.le_refl _⟩ (cm_X5_columns l E) (by decide) (cm_X5_place l E) (by decide)) (fun as g h => ?_)
  unfold f_X5_most at h ⊢
  dsimp only at h ⊢
  split at h
  · exact ⟨by simp, by simp, run_X5_most E g  h⟩
  · cases h
theorem cm_X5_isLaw (l : Launch) (E : Ex) : CM l SH E yX5_isLaw cX5_isLaw 2 (some .boolean) 2 f_X5_isLaw := by
  refine cm_of (own := RX5) (T := T_X5_isLaw E ev_X5_isLaw) (K := K_X5_isLaw) (by decide) rfl (by simp) (fun p e s m args below meth c Q D C A ad X => ts_X5_isLaw (d := 2) X ⟨Nat.le_refl _, Nat.le_refl _⟩ ⟨Nat.le_refl _, Nat.le_refl _⟩ (cm_X5_most l E) (by decide) (cm_X5_isIn l E) (by decide)) (fun as g h => ?_)
  unfold f_X5_isLaw at h ⊢
  dsimp only at h ⊢
  split at h
  · exact ⟨by simp, by simp, run_X5_isLaw E g _ h⟩
  · cases h
theorem cm_X5_turned (l : Launch) (E : Ex) : CM l SH E yX5_turned cX5_turned 4 (some .int) 2 f_X5_turned := by
  refine cm_of (own := RX5) (T := T_X5_turned E ev_X5_turned) (K := K_X5_turned) (by decide) rfl (by simp) (fun p e s m args below meth c Q D C A ad X => ts_X5_turned (d := 2) X ⟨Nat.le_refl _, Nat.le_refl _⟩ ⟨Nat.le_refl _, Nat.le_refl _⟩ (cm_X5_place l E) (by decide) (cm_X5_digit l E) (by decide)) (fun as g h => ?_)
  unfold f_X5_turned at h ⊢
  dsimp only at h ⊢
  split at h
  · exact ⟨by simp, by simp, run_X5_turned E g _ h⟩
  · cases h
theorem cm_X5_least0 (l : Launch) (E : Ex) : CM l SH E yX5_least0 cX5_least0 2 (some .int) 3 f_X5_least0 := by
  refine cm_of (own := RX5) (T := T_X5_least0 E ev_X5_least0) (K := K_X5_least0) (by decide) rfl (by simp) (fun p e s m args below meth c Q D C A ad X => ts_X5_least0 (d := 3) X ⟨Nat.le_refl _, Nat.le_refl _⟩ ⟨Nat.le_refl _, Nat.le_refl _⟩ (cm_X5_turned l E) (by decide)) (fun as g h => ?_)
  unfold f_X5_least0 at h ⊢
  dsimp only at h ⊢
  split at h
  · exact ⟨by simp, by simp, run_X5_least0 E g _ h⟩
  · cases h
theorem cm_X5_isSo (l : Launch) (E : Ex) : CM l SH E yX5_isSo cX5_isSo 7 (some .boolean) 2 f_X5_isSo := by
  refine cm_of (own := RX5) (T := T_X5_isSo E ev_X5_isSo) (K := K_X5_isSo) (by decide) rfl (by simp) (fun p e s m args below meth c Q D C A ad X => ts_X5_isSo (d := 2) X ⟨Nat.le_refl _, Nat.le_refl _⟩ ⟨Nat.le_refl _, Nat.le_refl _⟩ (cm_X5_columns l E) (by decide) (cm_X5_digit l E) (by decide) (cm_X5_step l E) (by decide)) (fun as g h => ?_)
  unfold f_X5_isSo at h ⊢
  dsimp only at h ⊢
  split at h
  · exact ⟨by simp, by simp, run_X5_isSo E g _ _ _ h⟩
  · cases h
theorem cm_X5_breaks (l : Launch) (E : Ex) : CM l SH E yX5_breaks cX5_breaks 4 (some .boolean) 3 f_X5_breaks := by
  refine cm_of (own := RX5) (T := T_X5_breaks E ev_X5_breaks) (K := K_X5_breaks) (by decide) rfl (by simp) (fun p e s m args below meth c Q D C A ad X => ts_X5_breaks (d := 3) X ⟨Nat.le_refl _, Nat.le_refl _⟩ ⟨Nat.le_refl _, Nat.le_refl _⟩ (cm_X5_isRow l E) (by decide) (cm_X5_isSo l E) (by decide)) (fun as g h => ?_)
  unfold f_X5_breaks at h ⊢
  dsimp only at h ⊢
  split at h
  · exact ⟨by simp, by simp, run_X5_breaks E g _ _ _ h⟩
  · cases h
theorem cm_X5_broken0 (l : Launch) (E : Ex) : CM l SH E yX5_broken0 cX5_broken0 5 (some .int) 4 f_X5_broken0 := by
  refine cm_of (own := RX5) (T := T_X5_broken0 E ev_X5_broken0) (K := K_X5_broken0) (by decide) rfl (by simp) (fun p e s m args below meth c Q D C A ad X => ts_X5_broken0 (d := 4) X ⟨Nat.le_refl _, Nat.le_refl _⟩ ⟨Nat.le_refl _, Nat.le_refl _⟩ (cm_X5_breaks l E) (by decide)) (fun as g h => ?_)
  unfold f_X5_broken0 at h ⊢
  dsimp only at h ⊢
  split at h
  · exact ⟨by simp, by simp, run_X5_broken0 E g _ h⟩
  · cases h
theorem cm_X5_saysAll (l : Launch) (E : Ex) : CM l SH E yX5_saysAll cX5_saysAll 6 (some .boolean) 2 f_X5_saysAll := by
  refine cm_of (own := RX5) (T := T_X5_saysAll E ev_X5_saysAll) (K := K_X5_saysAll) (by decide) rfl (by simp) (fun p e s m args below meth c Q D C A ad X => ts_X5_saysAll (d := 2) X ⟨Nat.le_refl _, Nat.le_refl _⟩ ⟨Nat.le_refl _, Nat.le_refl _⟩ (cm_X5_digit l E) (by decide)) (fun as g h => ?_)
  unfold f_X5_saysAll at h ⊢
  dsimp only at h ⊢
  split at h
  · exact ⟨by simp, by simp, run_X5_saysAll E g _ _ h⟩
  · cases h
theorem cm_X5_isSaid (l : Launch) (E : Ex) : CM l SH E yX5_isSaid cX5_isSaid 3 (some .boolean) 3 f_X5_isSaid := by
  refine cm_of (own := RX5) (T := T_X5_isSaid E ev_X5_isSaid) (K := K_X5_isSaid) (by decide) rfl (by simp) (fun p e s m args below meth c Q D C A ad X => ts_X5_isSaid (d := 3) X ⟨Nat.le_refl _, Nat.le_refl _⟩ ⟨Nat.le_refl _, Nat.le_refl _⟩ (cm_X5_saysAll l E) (by decide) (cm_X5_turned l E) (by decide)) (fun as g h => ?_)
  unfold f_X5_isSaid at h ⊢
  dsimp only at h ⊢
  split at h
  · exact ⟨by simp, by simp, run_X5_isSaid E g _ _ h⟩
  · cases h
theorem cm_X5_size (l : Launch) (E : Ex) : CM l SH E yX5_size cX5_size 3 (some .int) 2 f_X5_size := by
  refine cm_of (own := RX5) (T := T_X5_size E ev_X5_size) (K := K_X5_size) (by decide) rfl (by simp) (fun p e s m args below meth c Q D C A ad X => ts_X5_size (d := 2) X ⟨Nat.le_refl _, Nat.le_refl _⟩ ⟨Nat.le_refl _, Nat.le_refl _⟩ (cm_X5_digit l E) (by decide)) (fun as g h => ?_)
  unfold f_X5_size at h ⊢
  dsimp only at h ⊢
  split at h
  · exact ⟨by simp, by simp, run_X5_size E g _ h⟩
  · cases h
theorem cm_X2_copyFrom (l : Launch) (E : Ex) : CM l SH E yX2_copyFrom cX2_copyFrom 2 (none) 1 f_X2_copyFrom := by
  refine cm_of (own := RX2) (T := T_X2_copyFrom E ev_X2_copyFrom) (K := K_X2_copyFrom) (by decide) rfl (by simp) (fun p e s m args below meth c Q D C A ad X => ts_X2_copyFrom (d := 1) X ⟨Nat.le_refl _, Nat.le_refl _⟩ ⟨Nat.le_refl _, Nat.le_refl _⟩ (by decide) ) (fun as g h => ?_)
  unfold f_X2_copyFrom at h ⊢
  dsimp only at h ⊢
  split at h
  · exact ⟨by simp, by simp, run_X2_copyFrom E g _ _ h⟩
  · cases h
theorem cm_X2_empty (l : Launch) (E : Ex) : CM l SH E yX2_empty cX2_empty 2 (none) 1 f_X2_empty := by
  refine cm_of (own := RX2) (T := T_X2_empty E ev_X2_empty) (K := K_X2_empty) (by decide) rfl (by simp) (fun p e s m args below meth c Q D C A ad X => ts_X2_empty (d := 1) X ⟨Nat.le_refl _, Nat.le_refl _⟩ ⟨Nat.le_refl _, Nat.le_refl _⟩ (cm_J7_fill_53178 l E) (by decide)) (fun as g h => ?_)
  unfold f_X2_empty at h ⊢
  dsimp only at h ⊢
  split at h
  · exact ⟨by simp, by simp, run_X2_empty E g _ h⟩
  · cases h
