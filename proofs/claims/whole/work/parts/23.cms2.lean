/-! CONTRACTS -/
theorem cm_X0_keep (l : Launch) (E : Ex) : CM l SH E yX0_keep cX0_keep 2 (none) 2 f_X0_keep := by
  refine cm_of (own := RX0) (T := T_X0_keep E ev_X0_keep) (K := K_X0_keep) (by decide) rfl (by simp) (fun p e s m args below meth c Q D C A ad X => ts_X0_keep (d := 2) X ⟨Nat.le_refl _, Nat.le_refl _⟩ ⟨Nat.le_refl _, Nat.le_refl _⟩ (by decide) (cm_X2_copyFrom l E) (by decide)) (fun as g h => ?_)
  unfold f_X0_keep at h ⊢
  dsimp only at h ⊢
  split at h
  · exact ⟨by simp, by simp, run_X0_keep E g  h⟩
  · cases h
theorem cm_X0_giveBack (l : Launch) (E : Ex) : CM l SH E yX0_giveBack cX0_giveBack 2 (some .boolean) 2 f_X0_giveBack := by
  refine cm_of (own := RX0) (T := T_X0_giveBack E ev_X0_giveBack) (K := K_X0_giveBack) (by decide) rfl (by simp) (fun p e s m args below meth c Q D C A ad X => ts_X0_giveBack (d := 2) X ⟨Nat.le_refl _, Nat.le_refl _⟩ ⟨Nat.le_refl _, Nat.le_refl _⟩ (cm_X2_copyFrom l E) (by decide)) (fun as g h => ?_)
  unfold f_X0_giveBack at h ⊢
  dsimp only at h ⊢
  split at h
  · exact ⟨by simp, by simp, run_X0_giveBack E g  h⟩
  · cases h
theorem cm_X4_remember (l : Launch) (E : Ex) : CM l SH E yX4_remember cX4_remember 1 (none) 3 f_X4_remember := by
  refine cm_of (own := RX4) (T := T_X4_remember E ev_X4_remember) (K := K_X4_remember) (by decide) rfl (by simp) (fun p e s m args below meth c Q D C A ad X => ts_X4_remember (d := 3) X ⟨Nat.le_refl _, Nat.le_refl _⟩ ⟨Nat.le_refl _, Nat.le_refl _⟩ (cm_X0_keep l E) (by decide)) (fun as g h => ?_)
  unfold f_X4_remember at h ⊢
  dsimp only at h ⊢
  split at h
  · exact ⟨by simp, by simp, run_X4_remember E g  h⟩
  · cases h
theorem cm_X4_count (l : Launch) (E : Ex) : CM l SH E yX4_count cX4_count 1 (none) 4 f_X4_count := by
  refine cm_of (own := RX4) (T := T_X4_count E ev_X4_count) (K := K_X4_count) (by decide) rfl (by simp) (fun p e s m args below meth c Q D C A ad X => ts_X4_count (d := 4) X ⟨Nat.le_refl _, Nat.le_refl _⟩ ⟨Nat.le_refl _, Nat.le_refl _⟩ (cm_X3_recount l E) (by decide)) (fun as g h => ?_)
  unfold f_X4_count at h ⊢
  dsimp only at h ⊢
  split at h
  · exact ⟨by simp, by simp, run_X4_count E g  h⟩
  · cases h
theorem cm_X4_undo (l : Launch) (E : Ex) : CM l SH E yX4_undo cX4_undo 1 (some .boolean) 3 f_X4_undo := by
  refine cm_of (own := RX4) (T := T_X4_undo E ev_X4_undo) (K := K_X4_undo) (by decide) rfl (by simp) (fun p e s m args below meth c Q D C A ad X => ts_X4_undo (d := 3) X ⟨Nat.le_refl _, Nat.le_refl _⟩ ⟨Nat.le_refl _, Nat.le_refl _⟩ (cm_X0_giveBack l E) (by decide)) (fun as g h => ?_)
  unfold f_X4_undo at h ⊢
  dsimp only at h ⊢
  split at h
  · exact ⟨by simp, by simp, run_X4_undo E g  h⟩
  · cases h
theorem cm_X4_table (l : Launch) (E : Ex) : CM l SH E yX4_table cX4_table 2 (some .boolean) 4 f_X4_table := by
  refine cm_of (own := RX4) (T := T_X4_table E ev_X4_table) (K := K_X4_table) (by decide) rfl (by simp) (fun p e s m args below meth c Q D C A ad X => ts_X4_table (d := 4) X ⟨Nat.le_refl _, Nat.le_refl _⟩ ⟨Nat.le_refl _, Nat.le_refl _⟩ (cm_X4_remember l E) (by decide) (cm_X2_empty l E) (by decide)) (fun as g h => ?_)
  unfold f_X4_table at h ⊢
  dsimp only at h ⊢
  split at h
  · exact ⟨by simp, by simp, run_X4_table E g _ h⟩
  · cases h
theorem cm_X4_put (l : Launch) (E : Ex) : CM l SH E yX4_put cX4_put 8 (some .boolean) 4 f_X4_put := by
  refine cm_of (own := RX4) (T := T_X4_put E ev_X4_put) (K := K_X4_put) (by decide) rfl (by simp) (fun p e s m args below meth c Q D C A ad X => ts_X4_put (d := 4) X ⟨Nat.le_refl _, Nat.le_refl _⟩ ⟨Nat.le_refl _, Nat.le_refl _⟩ (cm_X4_isSlot l E) (by decide) (cm_X4_fits l E) (by decide) (cm_X4_remember l E) (by decide) (cm_X2_seat l E) (by decide) (cm_X2_write l E) (by decide)) (fun as g h => ?_)
  unfold f_X4_put at h ⊢
  dsimp only at h ⊢
  split at h
  · exact ⟨by simp, by simp, run_X4_put E g _ _ _ _ _ _ _ h⟩
  · cases h
theorem cm_X4_change (l : Launch) (E : Ex) : CM l SH E yX4_change cX4_change 4 (some .boolean) 4 f_X4_change := by
  refine cm_of (own := RX4) (T := T_X4_change E ev_X4_change) (K := K_X4_change) (by decide) rfl (by simp) (fun p e s m args below meth c Q D C A ad X => ts_X4_change (d := 4) X ⟨Nat.le_refl _, Nat.le_refl _⟩ ⟨Nat.le_refl _, Nat.le_refl _⟩ (cm_X2_hasRow l E) (by decide) (cm_X2_hasColumn l E) (by decide) (cm_X4_fits l E) (by decide) (cm_X4_remember l E) (by decide) (cm_X2_write l E) (by decide)) (fun as g h => ?_)
  unfold f_X4_change at h ⊢
  dsimp only at h ⊢
  split at h
  · exact ⟨by simp, by simp, run_X4_change E g _ _ _ h⟩
  · cases h
theorem cm_X4_strike (l : Launch) (E : Ex) : CM l SH E yX4_strike cX4_strike 2 (some .boolean) 4 f_X4_strike := by
  refine cm_of (own := RX4) (T := T_X4_strike E ev_X4_strike) (K := K_X4_strike) (by decide) rfl (by simp) (fun p e s m args below meth c Q D C A ad X => ts_X4_strike (d := 4) X ⟨Nat.le_refl _, Nat.le_refl _⟩ ⟨Nat.le_refl _, Nat.le_refl _⟩ (cm_X2_hasRow l E) (by decide) (cm_X4_remember l E) (by decide)) (fun as g h => ?_)
  unfold f_X4_strike at h ⊢
  dsimp only at h ⊢
  split at h
  · exact ⟨by simp, by simp, run_X4_strike E g _ h⟩
  · cases h
theorem cm_X4_price (l : Launch) (E : Ex) : CM l SH E yX4_price cX4_price 3 (some .boolean) 4 f_X4_price := by
  refine cm_of (own := RX4) (T := T_X4_price E ev_X4_price) (K := K_X4_price) (by decide) rfl (by simp) (fun p e s m args below meth c Q D C A ad X => ts_X4_price (d := 4) X ⟨Nat.le_refl _, Nat.le_refl _⟩ ⟨Nat.le_refl _, Nat.le_refl _⟩ (cm_X2_hasRow l E) (by decide) (cm_X4_remember l E) (by decide)) (fun as g h => ?_)
  unfold f_X4_price at h ⊢
  dsimp only at h ⊢
  split at h
  · exact ⟨by simp, by simp, run_X4_price E g _ _ h⟩
  · cases h
theorem cm_X4_swap (l : Launch) (E : Ex) : CM l SH E yX4_swap cX4_swap 3 (some .boolean) 4 f_X4_swap := by
  refine cm_of (own := RX4) (T := T_X4_swap E ev_X4_swap) (K := K_X4_swap) (by decide) rfl (by simp) (fun p e s m args below meth c Q D C A ad X => ts_X4_swap (d := 4) X ⟨Nat.le_refl _, Nat.le_refl _⟩ ⟨Nat.le_refl _, Nat.le_refl _⟩ (by decide) (cm_X2_hasColumn l E) (by decide) (cm_X2_shortest l E) (by decide) (cm_X4_remember l E) (by decide) (cm_X2_exchange l E) (by decide)) (fun as g h => ?_)
  unfold f_X4_swap at h ⊢
  dsimp only at h ⊢
  split at h
  · exact ⟨by simp, by simp, run_X4_swap E g _ _ h⟩
  · cases h
theorem cm_X4_at (l : Launch) (E : Ex) : CM l SH E yX4_at cX4_at 3 (some .int) 2 f_X4_at := by
  refine cm_of (own := RX4) (T := T_X4_at E ev_X4_at) (K := K_X4_at) (by decide) rfl (by simp) (fun p e s m args below meth c Q D C A ad X => ts_X4_at (d := 2) X ⟨Nat.le_refl _, Nat.le_refl _⟩ ⟨Nat.le_refl _, Nat.le_refl _⟩ (cm_X2_hasRow l E) (by decide) (cm_X2_hasColumn l E) (by decide) (cm_X2_read l E) (by decide)) (fun as g h => ?_)
  unfold f_X4_at at h ⊢
  dsimp only at h ⊢
  split at h
  · exact ⟨by simp, by simp, run_X4_at E g _ _ h⟩
  · cases h
theorem cm_X4_row (l : Launch) (E : Ex) : CM l SH E yX4_row cX4_row 3 (some .int) 2 f_X4_row := by
  refine cm_of (own := RX4) (T := T_X4_row E ev_X4_row) (K := K_X4_row) (by decide) rfl (by simp) (fun p e s m args below meth c Q D C A ad X => ts_X4_row (d := 2) X ⟨Nat.le_refl _, Nat.le_refl _⟩ ⟨Nat.le_refl _, Nat.le_refl _⟩ (cm_X4_isSlot l E) (by decide) (cm_X2_hasRow l E) (by decide)) (fun as g h => ?_)
  unfold f_X4_row at h ⊢
  dsimp only at h ⊢
  split at h
  · exact ⟨by simp, by simp, run_X4_row E g _ _ h⟩
  · cases h
theorem cm_X4_between (l : Launch) (E : Ex) : CM l SH E yX4_between cX4_between 3 (some .int) 2 f_X4_between := by
  refine cm_of (own := RX4) (T := T_X4_between E ev_X4_between) (K := K_X4_between) (by decide) rfl (by simp) (fun p e s m args below meth c Q D C A ad X => ts_X4_between (d := 2) X ⟨Nat.le_refl _, Nat.le_refl _⟩ ⟨Nat.le_refl _, Nat.le_refl _⟩ (cm_X2_hasRow l E) (by decide) (cm_X2_compared l E) (by decide)) (fun as g h => ?_)
  unfold f_X4_between at h ⊢
  dsimp only at h ⊢
  split at h
  · exact ⟨by simp, by simp, run_X4_between E g _ _ h⟩
  · cases h
theorem cm_X4_pairs (l : Launch) (E : Ex) : CM l SH E yX4_pairs cX4_pairs 2 (some .int) 5 f_X4_pairs := by
  refine cm_of (own := RX4) (T := T_X4_pairs E ev_X4_pairs) (K := K_X4_pairs) (by decide) rfl (by simp) (fun p e s m args below meth c Q D C A ad X => ts_X4_pairs (d := 5) X ⟨Nat.le_refl _, Nat.le_refl _⟩ ⟨Nat.le_refl _, Nat.le_refl _⟩ (cm_X4_isLaw l E) (by decide) (cm_X4_columnsOf l E) (by decide) (cm_X4_count l E) (by decide)) (fun as g h => ?_)
  unfold f_X4_pairs at h ⊢
  dsimp only at h ⊢
  split at h
  · exact ⟨by simp, by simp, run_X4_pairs E g _ h⟩
  · cases h
theorem cm_X4_kinds (l : Launch) (E : Ex) : CM l SH E yX4_kinds cX4_kinds 1 (some .int) 5 f_X4_kinds := by
  refine cm_of (own := RX4) (T := T_X4_kinds E ev_X4_kinds) (K := K_X4_kinds) (by decide) rfl (by simp) (fun p e s m args below meth c Q D C A ad X => ts_X4_kinds (d := 5) X ⟨Nat.le_refl _, Nat.le_refl _⟩ ⟨Nat.le_refl _, Nat.le_refl _⟩ (cm_X4_count l E) (by decide) (cm_X3_unlikeSeen l E) (by decide)) (fun as g h => ?_)
  unfold f_X4_kinds at h ⊢
  dsimp only at h ⊢
  split at h
  · exact ⟨by simp, by simp, run_X4_kinds E g  h⟩
  · cases h
theorem cm_X4_broken (l : Launch) (E : Ex) : CM l SH E yX4_broken cX4_broken 2 (some .int) 5 f_X4_broken := by
  refine cm_of (own := RX4) (T := T_X4_broken E ev_X4_broken) (K := K_X4_broken) (by decide) rfl (by simp) (fun p e s m args below meth c Q D C A ad X => ts_X4_broken (d := 5) X ⟨Nat.le_refl _, Nat.le_refl _⟩ ⟨Nat.le_refl _, Nat.le_refl _⟩ (cm_X4_isLaw l E) (by decide) (cm_X4_count l E) (by decide)) (fun as g h => ?_)
  unfold f_X4_broken at h ⊢
  dsimp only at h ⊢
  split at h
  · exact ⟨by simp, by simp, run_X4_broken E g _ h⟩
  · cases h
theorem cm_X4_sort (l : Launch) (E : Ex) : CM l SH E yX4_sort cX4_sort 6 (some .int) 1 f_X4_sort := by
  refine cm_of (own := RX4) (T := T_X4_sort E ev_X4_sort) (K := K_X4_sort) (by decide) rfl (by simp) (fun p e s m args below meth c Q D C A ad X => ts_X4_sort (d := 1) X ⟨Nat.le_refl _, Nat.le_refl _⟩ ⟨Nat.le_refl _, Nat.le_refl _⟩ (cm_X4_isLaw l E) (by decide) (cm_X4_digitOf l E) (by decide)) (fun as g h => ?_)
  unfold f_X4_sort at h ⊢
  dsimp only at h ⊢
  split at h
  · exact ⟨by simp, by simp, run_X4_sort E g _ h⟩
  · cases h
theorem cm_X4_least (l : Launch) (E : Ex) : CM l SH E yX4_least cX4_least 2 (some .int) 2 f_X4_least := by
  refine cm_of (own := RX4) (T := T_X4_least E ev_X4_least) (K := K_X4_least) (by decide) rfl (by simp) (fun p e s m args below meth c Q D C A ad X => ts_X4_least (d := 2) X ⟨Nat.le_refl _, Nat.le_refl _⟩ ⟨Nat.le_refl _, Nat.le_refl _⟩ (by decide) (cm_X4_isLaw l E) (by decide) (cm_X4_turnedOf l E) (by decide)) (fun as g h => ?_)
  unfold f_X4_least at h ⊢
  dsimp only at h ⊢
  split at h
  · exact ⟨by simp, by simp, run_X4_least E g _ h⟩
  · cases h
theorem cm_X4_said (l : Launch) (E : Ex) : CM l SH E yX4_said cX4_said 3 (some .int) 2 f_X4_said := by
  refine cm_of (own := RX4) (T := T_X4_said E ev_X4_said) (K := K_X4_said) (by decide) rfl (by simp) (fun p e s m args below meth c Q D C A ad X => ts_X4_said (d := 2) X ⟨Nat.le_refl _, Nat.le_refl _⟩ ⟨Nat.le_refl _, Nat.le_refl _⟩ (cm_X4_isLaw l E) (by decide) (cm_X4_covers l E) (by decide) (cm_X4_turnedOf l E) (by decide)) (fun as g h => ?_)
  unfold f_X4_said at h ⊢
  dsimp only at h ⊢
  split at h
  · exact ⟨by simp, by simp, run_X4_said E g _ _ h⟩
  · cases h
theorem cm_X4_tell (l : Launch) (E : Ex) : CM l SH E yX4_tell cX4_tell 3 (some .boolean) 4 f_X4_tell := by
  refine cm_of (own := RX4) (T := T_X4_tell E ev_X4_tell) (K := K_X4_tell) (by decide) rfl (by simp) (fun p e s m args below meth c Q D C A ad X => ts_X4_tell (d := 4) X ⟨Nat.le_refl _, Nat.le_refl _⟩ ⟨Nat.le_refl _, Nat.le_refl _⟩ (cm_X4_isLaw l E) (by decide) (cm_X4_remember l E) (by decide)) (fun as g h => ?_)
  unfold f_X4_tell at h ⊢
  dsimp only at h ⊢
  split at h
  · exact ⟨by simp, by simp, run_X4_tell E g _ _ h⟩
  · cases h
theorem cm_X4_told (l : Launch) (E : Ex) : CM l SH E yX4_told cX4_told 2 (some .int) 0 f_X4_told := by
  refine cm_of (own := RX4) (T := T_X4_told E ev_X4_told) (K := K_X4_told) (by decide) rfl (by simp) (fun p e s m args below meth c Q D C A ad X => ts_X4_told (d := 0) X ⟨Nat.le_refl _, Nat.le_refl _⟩ ⟨Nat.le_refl _, Nat.le_refl _⟩ ) (fun as g h => ?_)
  unfold f_X4_told at h ⊢
  dsimp only at h ⊢
  split at h
  · exact ⟨by simp, by simp, run_X4_told E g _ h⟩
  · cases h
