/-! CONTRACTS -/
theorem cm_X5_keep (l : Launch) (E : Ex) : CM l SH E yX5_keep cX5_keep 2 (none) 0 f_X5_keep := by
  refine cm_of (own := RX5) (T := T_X5_keep E ev_X5_keep) (K := K_X5_keep) (by decide) rfl (by simp) (fun p e s m args below meth c Q D C A ad X => ts_X5_keep (d := 0) X ⟨Nat.le_refl _, Nat.le_refl _⟩ ⟨Nat.le_refl _, Nat.le_refl _⟩ ) (fun as g h => ?_)
  unfold f_X5_keep at h ⊢
  dsimp only at h ⊢
  split at h
  · exact ⟨by simp, by simp, run_X5_keep E g  h⟩
  · cases h
theorem cm_X5_undo (l : Launch) (E : Ex) : CM l SH E yX5_undo cX5_undo 2 (some .boolean) 0 f_X5_undo := by
  refine cm_of (own := RX5) (T := T_X5_undo E ev_X5_undo) (K := K_X5_undo) (by decide) rfl (by simp) (fun p e s m args below meth c Q D C A ad X => ts_X5_undo (d := 0) X ⟨Nat.le_refl _, Nat.le_refl _⟩ ⟨Nat.le_refl _, Nat.le_refl _⟩ ) (fun as g h => ?_)
  unfold f_X5_undo at h ⊢
  dsimp only at h ⊢
  split at h
  · exact ⟨by simp, by simp, run_X5_undo E g  h⟩
  · cases h
theorem cm_X5_table (l : Launch) (E : Ex) : CM l SH E yX5_table cX5_table 3 (some .boolean) 1 f_X5_table := by
  refine cm_of (own := RX5) (T := T_X5_table E ev_X5_table) (K := K_X5_table) (by decide) rfl (by simp) (fun p e s m args below meth c Q D C A ad X => ts_X5_table (d := 1) X ⟨Nat.le_refl _, Nat.le_refl _⟩ ⟨Nat.le_refl _, Nat.le_refl _⟩ (cm_X5_isIn l E) (by decide) (cm_X5_keep l E) (by decide)) (fun as g h => ?_)
  unfold f_X5_table at h ⊢
  dsimp only at h ⊢
  split at h
  · exact ⟨by simp, by simp, run_X5_table E g _ h⟩
  · cases h
theorem cm_X5_put (l : Launch) (E : Ex) : CM l SH E yX5_put cX5_put 11 (some .boolean) 2 f_X5_put := by
  refine cm_of (own := RX5) (T := T_X5_put E ev_X5_put) (K := K_X5_put) (by decide) rfl (by simp) (fun p e s m args below meth c Q D C A ad X => ts_X5_put (d := 2) X ⟨Nat.le_refl _, Nat.le_refl _⟩ ⟨Nat.le_refl _, Nat.le_refl _⟩ (cm_X5_isIn l E) (by decide) (cm_X5_isNumber l E) (by decide) (cm_X5_keep l E) (by decide) (cm_X5_set l E) (by decide)) (fun as g h => ?_)
  unfold f_X5_put at h ⊢
  dsimp only at h ⊢
  split at h
  · exact ⟨by simp, by simp, run_X5_put E g _ _ _ _ _ _ _ h⟩
  · cases h
theorem cm_X5_change (l : Launch) (E : Ex) : CM l SH E yX5_change cX5_change 4 (some .boolean) 2 f_X5_change := by
  refine cm_of (own := RX5) (T := T_X5_change E ev_X5_change) (K := K_X5_change) (by decide) rfl (by simp) (fun p e s m args below meth c Q D C A ad X => ts_X5_change (d := 2) X ⟨Nat.le_refl _, Nat.le_refl _⟩ ⟨Nat.le_refl _, Nat.le_refl _⟩ (cm_X5_isRow l E) (by decide) (cm_X5_isColumn l E) (by decide) (cm_X5_get l E) (by decide) (cm_X5_isNumber l E) (by decide) (cm_X5_keep l E) (by decide) (cm_X5_set l E) (by decide)) (fun as g h => ?_)
  unfold f_X5_change at h ⊢
  dsimp only at h ⊢
  split at h
  · exact ⟨by simp, by simp, run_X5_change E g _ _ _ h⟩
  · cases h
theorem cm_X5_strike (l : Launch) (E : Ex) : CM l SH E yX5_strike cX5_strike 2 (some .boolean) 2 f_X5_strike := by
  refine cm_of (own := RX5) (T := T_X5_strike E ev_X5_strike) (K := K_X5_strike) (by decide) rfl (by simp) (fun p e s m args below meth c Q D C A ad X => ts_X5_strike (d := 2) X ⟨Nat.le_refl _, Nat.le_refl _⟩ ⟨Nat.le_refl _, Nat.le_refl _⟩ (cm_X5_isRow l E) (by decide) (cm_X5_keep l E) (by decide) (cm_X5_set l E) (by decide)) (fun as g h => ?_)
  unfold f_X5_strike at h ⊢
  dsimp only at h ⊢
  split at h
  · exact ⟨by simp, by simp, run_X5_strike E g _ h⟩
  · cases h
theorem cm_X5_price (l : Launch) (E : Ex) : CM l SH E yX5_price cX5_price 3 (some .boolean) 2 f_X5_price := by
  refine cm_of (own := RX5) (T := T_X5_price E ev_X5_price) (K := K_X5_price) (by decide) rfl (by simp) (fun p e s m args below meth c Q D C A ad X => ts_X5_price (d := 2) X ⟨Nat.le_refl _, Nat.le_refl _⟩ ⟨Nat.le_refl _, Nat.le_refl _⟩ (cm_X5_isRow l E) (by decide) (cm_X5_isIn l E) (by decide) (cm_X5_keep l E) (by decide) (cm_X5_set l E) (by decide)) (fun as g h => ?_)
  unfold f_X5_price at h ⊢
  dsimp only at h ⊢
  split at h
  · exact ⟨by simp, by simp, run_X5_price E g _ _ h⟩
  · cases h
theorem cm_X5_swap (l : Launch) (E : Ex) : CM l SH E yX5_swap cX5_swap 5 (some .boolean) 2 f_X5_swap := by
  refine cm_of (own := RX5) (T := T_X5_swap E ev_X5_swap) (K := K_X5_swap) (by decide) rfl (by simp) (fun p e s m args below meth c Q D C A ad X => ts_X5_swap (d := 2) X ⟨Nat.le_refl _, Nat.le_refl _⟩ ⟨Nat.le_refl _, Nat.le_refl _⟩ (cm_X5_isColumn l E) (by decide) (cm_X5_isRow l E) (by decide) (cm_X5_get l E) (by decide) (cm_X5_keep l E) (by decide) (cm_X5_set l E) (by decide)) (fun as g h => ?_)
  unfold f_X5_swap at h ⊢
  dsimp only at h ⊢
  split at h
  · exact ⟨by simp, by simp, run_X5_swap E g _ _ h⟩
  · cases h
theorem cm_X5_at (l : Launch) (E : Ex) : CM l SH E yX5_at cX5_at 3 (some .int) 2 f_X5_at := by
  refine cm_of (own := RX5) (T := T_X5_at E ev_X5_at) (K := K_X5_at) (by decide) rfl (by simp) (fun p e s m args below meth c Q D C A ad X => ts_X5_at (d := 2) X ⟨Nat.le_refl _, Nat.le_refl _⟩ ⟨Nat.le_refl _, Nat.le_refl _⟩ (cm_X5_isRow l E) (by decide) (cm_X5_isColumn l E) (by decide) (cm_X5_get l E) (by decide)) (fun as g h => ?_)
  unfold f_X5_at at h ⊢
  dsimp only at h ⊢
  split at h
  · exact ⟨by simp, by simp, run_X5_at E g _ _ h⟩
  · cases h
theorem cm_X5_row (l : Launch) (E : Ex) : CM l SH E yX5_row cX5_row 3 (some .int) 2 f_X5_row := by
  refine cm_of (own := RX5) (T := T_X5_row E ev_X5_row) (K := K_X5_row) (by decide) rfl (by simp) (fun p e s m args below meth c Q D C A ad X => ts_X5_row (d := 2) X ⟨Nat.le_refl _, Nat.le_refl _⟩ ⟨Nat.le_refl _, Nat.le_refl _⟩ (cm_X5_isIn l E) (by decide) (cm_X5_get l E) (by decide) (cm_X5_isRow l E) (by decide)) (fun as g h => ?_)
  unfold f_X5_row at h ⊢
  dsimp only at h ⊢
  split at h
  · exact ⟨by simp, by simp, run_X5_row E g _ _ h⟩
  · cases h
theorem cm_X5_between (l : Launch) (E : Ex) : CM l SH E yX5_between cX5_between 3 (some .int) 3 f_X5_between := by
  refine cm_of (own := RX5) (T := T_X5_between E ev_X5_between) (K := K_X5_between) (by decide) rfl (by simp) (fun p e s m args below meth c Q D C A ad X => ts_X5_between (d := 3) X ⟨Nat.le_refl _, Nat.le_refl _⟩ ⟨Nat.le_refl _, Nat.le_refl _⟩ (cm_X5_isRow l E) (by decide) (cm_X5_between0 l E) (by decide)) (fun as g h => ?_)
  unfold f_X5_between at h ⊢
  dsimp only at h ⊢
  split at h
  · exact ⟨by simp, by simp, run_X5_between E g _ _ h⟩
  · cases h
theorem cm_X5_pairs (l : Launch) (E : Ex) : CM l SH E yX5_pairs cX5_pairs 3 (some .int) 4 f_X5_pairs := by
  refine cm_of (own := RX5) (T := T_X5_pairs E ev_X5_pairs) (K := K_X5_pairs) (by decide) rfl (by simp) (fun p e s m args below meth c Q D C A ad X => ts_X5_pairs (d := 4) X ⟨Nat.le_refl _, Nat.le_refl _⟩ ⟨Nat.le_refl _, Nat.le_refl _⟩ (cm_X5_most l E) (by decide) (cm_X5_isIn l E) (by decide) (cm_X5_columns l E) (by decide) (cm_X5_digit l E) (by decide) (cm_X5_counts l E) (by decide)) (fun as g h => ?_)
  unfold f_X5_pairs at h ⊢
  dsimp only at h ⊢
  split at h
  · exact ⟨by simp, by simp, run_X5_pairs E g _ h⟩
  · cases h
theorem cm_X5_kinds (l : Launch) (E : Ex) : CM l SH E yX5_kinds cX5_kinds 3 (some .int) 4 f_X5_kinds := by
  refine cm_of (own := RX5) (T := T_X5_kinds E ev_X5_kinds) (K := K_X5_kinds) (by decide) rfl (by simp) (fun p e s m args below meth c Q D C A ad X => ts_X5_kinds (d := 4) X ⟨Nat.le_refl _, Nat.le_refl _⟩ ⟨Nat.le_refl _, Nat.le_refl _⟩ (cm_X5_counts l E) (by decide)) (fun as g h => ?_)
  unfold f_X5_kinds at h ⊢
  dsimp only at h ⊢
  split at h
  · exact ⟨by simp, by simp, run_X5_kinds E g  h⟩
  · cases h
theorem cm_X5_least (l : Launch) (E : Ex) : CM l SH E yX5_least cX5_least 2 (some .int) 4 f_X5_least := by
  refine cm_of (own := RX5) (T := T_X5_least E ev_X5_least) (K := K_X5_least) (by decide) rfl (by simp) (fun p e s m args below meth c Q D C A ad X => ts_X5_least (d := 4) X ⟨Nat.le_refl _, Nat.le_refl _⟩ ⟨Nat.le_refl _, Nat.le_refl _⟩ (cm_X5_isLaw l E) (by decide) (cm_X5_least0 l E) (by decide)) (fun as g h => ?_)
  unfold f_X5_least at h ⊢
  dsimp only at h ⊢
  split at h
  · exact ⟨by simp, by simp, run_X5_least E g _ h⟩
  · cases h
theorem cm_X5_broken (l : Launch) (E : Ex) : CM l SH E yX5_broken cX5_broken 2 (some .int) 5 f_X5_broken := by
  refine cm_of (own := RX5) (T := T_X5_broken E ev_X5_broken) (K := K_X5_broken) (by decide) rfl (by simp) (fun p e s m args below meth c Q D C A ad X => ts_X5_broken (d := 5) X ⟨Nat.le_refl _, Nat.le_refl _⟩ ⟨Nat.le_refl _, Nat.le_refl _⟩ (cm_X5_isLaw l E) (by decide) (cm_X5_broken0 l E) (by decide)) (fun as g h => ?_)
  unfold f_X5_broken at h ⊢
  dsimp only at h ⊢
  split at h
  · exact ⟨by simp, by simp, run_X5_broken E g _ h⟩
  · cases h
theorem cm_X5_breaker (l : Launch) (E : Ex) : CM l SH E yX5_breaker cX5_breaker 7 (some .int) 4 f_X5_breaker := by
  refine cm_of (own := RX5) (T := T_X5_breaker E ev_X5_breaker) (K := K_X5_breaker) (by decide) rfl (by simp) (fun p e s m args below meth c Q D C A ad X => ts_X5_breaker (d := 4) X ⟨Nat.le_refl _, Nat.le_refl _⟩ ⟨Nat.le_refl _, Nat.le_refl _⟩ (cm_X5_isLaw l E) (by decide) (cm_X5_isIn l E) (by decide) (cm_X5_breaks l E) (by decide)) (fun as g h => ?_)
  unfold f_X5_breaker at h ⊢
  dsimp only at h ⊢
  split at h
  · exact ⟨by simp, by simp, run_X5_breaker E g _ _ _ h⟩
  · cases h
theorem cm_X5_said (l : Launch) (E : Ex) : CM l SH E yX5_said cX5_said 3 (some .int) 4 f_X5_said := by
  refine cm_of (own := RX5) (T := T_X5_said E ev_X5_said) (K := K_X5_said) (by decide) rfl (by simp) (fun p e s m args below meth c Q D C A ad X => ts_X5_said (d := 4) X ⟨Nat.le_refl _, Nat.le_refl _⟩ ⟨Nat.le_refl _, Nat.le_refl _⟩ (cm_X5_isLaw l E) (by decide) (cm_X5_isSaid l E) (by decide)) (fun as g h => ?_)
  unfold f_X5_said at h ⊢
  dsimp only at h ⊢
  split at h
  · exact ⟨by simp, by simp, run_X5_said E g _ _ h⟩
  · cases h
theorem cm_X5_sort (l : Launch) (E : Ex) : CM l SH E yX5_sort cX5_sort 7 (some .int) 3 f_X5_sort := by
  refine cm_of (own := RX5) (T := T_X5_sort E ev_X5_sort) (K := K_X5_sort) (by decide) rfl (by simp) (fun p e s m args below meth c Q D C A ad X => ts_X5_sort (d := 3) X ⟨Nat.le_refl _, Nat.le_refl _⟩ ⟨Nat.le_refl _, Nat.le_refl _⟩ (cm_X5_isLaw l E) (by decide) (cm_X5_digit l E) (by decide)) (fun as g h => ?_)
  unfold f_X5_sort at h ⊢
  dsimp only at h ⊢
  split at h
  · exact ⟨by simp, by simp, run_X5_sort E g _ h⟩
  · cases h
theorem cm_X5_tell (l : Launch) (E : Ex) : CM l SH E yX5_tell cX5_tell 3 (some .boolean) 3 f_X5_tell := by
  refine cm_of (own := RX5) (T := T_X5_tell E ev_X5_tell) (K := K_X5_tell) (by decide) rfl (by simp) (fun p e s m args below meth c Q D C A ad X => ts_X5_tell (d := 3) X ⟨Nat.le_refl _, Nat.le_refl _⟩ ⟨Nat.le_refl _, Nat.le_refl _⟩ (cm_X5_isIn l E) (by decide) (cm_X5_isLaw l E) (by decide) (cm_X5_keep l E) (by decide)) (fun as g h => ?_)
  unfold f_X5_tell at h ⊢
  dsimp only at h ⊢
  split at h
  · exact ⟨by simp, by simp, run_X5_tell E g _ _ h⟩
  · cases h
theorem cm_X5_told (l : Launch) (E : Ex) : CM l SH E yX5_told cX5_told 2 (some .int) 1 f_X5_told := by
  refine cm_of (own := RX5) (T := T_X5_told E ev_X5_told) (K := K_X5_told) (by decide) rfl (by simp) (fun p e s m args below meth c Q D C A ad X => ts_X5_told (d := 1) X ⟨Nat.le_refl _, Nat.le_refl _⟩ ⟨Nat.le_refl _, Nat.le_refl _⟩ (cm_X5_isIn l E) (by decide)) (fun as g h => ?_)
  unfold f_X5_told at h ⊢
  dsimp only at h ⊢
  split at h
  · exact ⟨by simp, by simp, run_X5_told E g _ h⟩
  · cases h
