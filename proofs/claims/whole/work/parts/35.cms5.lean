/-! CONTRACTS -/
theorem cm_X5_finds (l : Launch) (E : Ex) : CM l SH E yX5_finds cX5_finds 6 (some .boolean) 5 f_X5_finds := by
  refine cm_of (own := RX5) (T := T_X5_finds E ev_X5_finds) (K := K_X5_finds) (by decide) rfl (by simp) (fun p e s m args below meth c Q D C A ad X => ts_X5_finds (d := 5) X ⟨Nat.le_refl _, Nat.le_refl _⟩ ⟨Nat.le_refl _, Nat.le_refl _⟩ (cm_X5_isIn l E) (by decide) (cm_X5_most l E) (by decide) (cm_X5_broken0 l E) (by decide) (cm_X5_least0 l E) (by decide) (cm_X5_size l E) (by decide) (cm_X5_turned l E) (by decide) (cm_X5_isSaid l E) (by decide)) (fun as g h => ?_)
  unfold f_X5_finds at h ⊢
  dsimp only at h ⊢
  split at h
  · exact ⟨by simp, by simp, run_X5_finds E g _ _ h⟩
  · cases h
theorem cm_X5_laws (l : Launch) (E : Ex) : CM l SH E yX5_laws cX5_laws 3 (some .int) 6 f_X5_laws := by
  refine cm_of (own := RX5) (T := T_X5_laws E ev_X5_laws) (K := K_X5_laws) (by decide) rfl (by simp) (fun p e s m args below meth c Q D C A ad X => ts_X5_laws (d := 6) X ⟨Nat.le_refl _, Nat.le_refl _⟩ ⟨Nat.le_refl _, Nat.le_refl _⟩ (cm_X5_finds l E) (by decide)) (fun as g h => ?_)
  unfold f_X5_laws at h ⊢
  dsimp only at h ⊢
  split at h
  · exact ⟨by simp, by simp, run_X5_laws E g _ _ h⟩
  · cases h
theorem cm_X5_law (l : Launch) (E : Ex) : CM l SH E yX5_law cX5_law 4 (some .int) 6 f_X5_law := by
  refine cm_of (own := RX5) (T := T_X5_law E ev_X5_law) (K := K_X5_law) (by decide) rfl (by simp) (fun p e s m args below meth c Q D C A ad X => ts_X5_law (d := 6) X ⟨Nat.le_refl _, Nat.le_refl _⟩ ⟨Nat.le_refl _, Nat.le_refl _⟩ (cm_X5_finds l E) (by decide) (cm_X5_isIn l E) (by decide)) (fun as g h => ?_)
  unfold f_X5_law at h ⊢
  dsimp only at h ⊢
  split at h
  · exact ⟨by simp, by simp, run_X5_law E g _ _ _ h⟩
  · cases h
theorem cm_X5_isSet (l : Launch) (E : Ex) : CM l SH E yX5_isSet cX5_isSet 2 (some .boolean) 1 f_X5_isSet := by
  refine cm_of (own := RX5) (T := T_X5_isSet E ev_X5_isSet) (K := K_X5_isSet) (by decide) rfl (by simp) (fun p e s m args below meth c Q D C A ad X => ts_X5_isSet (d := 1) X ⟨Nat.le_refl _, Nat.le_refl _⟩ ⟨Nat.le_refl _, Nat.le_refl _⟩ (cm_X5_columns l E) (by decide) (cm_X5_isIn l E) (by decide)) (fun as g h => ?_)
  unfold f_X5_isSet at h ⊢
  dsimp only at h ⊢
  split at h
  · exact ⟨by simp, by simp, run_X5_isSet E g _ h⟩
  · cases h
theorem cm_X5_alikeIn (l : Launch) (E : Ex) : CM l SH E yX5_alikeIn cX5_alikeIn 5 (some .boolean) 2 f_X5_alikeIn := by
  refine cm_of (own := RX5) (T := T_X5_alikeIn E ev_X5_alikeIn) (K := K_X5_alikeIn) (by decide) rfl (by simp) (fun p e s m args below meth c Q D C A ad X => ts_X5_alikeIn (d := 2) X ⟨Nat.le_refl _, Nat.le_refl _⟩ ⟨Nat.le_refl _, Nat.le_refl _⟩ (cm_X5_columns l E) (by decide) (cm_X5_step l E) (by decide)) (fun as g h => ?_)
  unfold f_X5_alikeIn at h ⊢
  dsimp only at h ⊢
  split at h
  · exact ⟨by simp, by simp, run_X5_alikeIn E g _ _ _ h⟩
  · cases h
theorem cm_X5_settles (l : Launch) (E : Ex) : CM l SH E yX5_settles cX5_settles 6 (some .int) 3 f_X5_settles := by
  refine cm_of (own := RX5) (T := T_X5_settles E ev_X5_settles) (K := K_X5_settles) (by decide) rfl (by simp) (fun p e s m args below meth c Q D C A ad X => ts_X5_settles (d := 3) X ⟨Nat.le_refl _, Nat.le_refl _⟩ ⟨Nat.le_refl _, Nat.le_refl _⟩ (cm_X5_isSet l E) (by decide) (cm_X5_columns l E) (by decide) (cm_X5_isRow l E) (by decide) (cm_X5_alikeIn l E) (by decide) (cm_X5_step l E) (by decide)) (fun as g h => ?_)
  unfold f_X5_settles at h ⊢
  dsimp only at h ⊢
  split at h
  · exact ⟨by simp, by simp, run_X5_settles E g _ h⟩
  · cases h
theorem cm_X5_isKey (l : Launch) (E : Ex) : CM l SH E yX5_isKey cX5_isKey 4 (some .boolean) 3 f_X5_isKey := by
  refine cm_of (own := RX5) (T := T_X5_isKey E ev_X5_isKey) (K := K_X5_isKey) (by decide) rfl (by simp) (fun p e s m args below meth c Q D C A ad X => ts_X5_isKey (d := 3) X ⟨Nat.le_refl _, Nat.le_refl _⟩ ⟨Nat.le_refl _, Nat.le_refl _⟩ (cm_X5_isRow l E) (by decide) (cm_X5_alikeIn l E) (by decide)) (fun as g h => ?_)
  unfold f_X5_isKey at h ⊢
  dsimp only at h ⊢
  split at h
  · exact ⟨by simp, by simp, run_X5_isKey E g _ h⟩
  · cases h
theorem cm_X5_isLeastKey (l : Launch) (E : Ex) : CM l SH E yX5_isLeastKey cX5_isLeastKey 3 (some .boolean) 4 f_X5_isLeastKey := by
  refine cm_of (own := RX5) (T := T_X5_isLeastKey E ev_X5_isLeastKey) (K := K_X5_isLeastKey) (by decide) rfl (by simp) (fun p e s m args below meth c Q D C A ad X => ts_X5_isLeastKey (d := 4) X ⟨Nat.le_refl _, Nat.le_refl _⟩ ⟨Nat.le_refl _, Nat.le_refl _⟩ (cm_X5_isKey l E) (by decide)) (fun as g h => ?_)
  unfold f_X5_isLeastKey at h ⊢
  dsimp only at h ⊢
  split at h
  · exact ⟨by simp, by simp, run_X5_isLeastKey E g _ h⟩
  · cases h
theorem cm_X5_keys (l : Launch) (E : Ex) : CM l SH E yX5_keys cX5_keys 3 (some .int) 5 f_X5_keys := by
  refine cm_of (own := RX5) (T := T_X5_keys E ev_X5_keys) (K := K_X5_keys) (by decide) rfl (by simp) (fun p e s m args below meth c Q D C A ad X => ts_X5_keys (d := 5) X ⟨Nat.le_refl _, Nat.le_refl _⟩ ⟨Nat.le_refl _, Nat.le_refl _⟩ (cm_X5_columns l E) (by decide) (cm_X5_isLeastKey l E) (by decide)) (fun as g h => ?_)
  unfold f_X5_keys at h ⊢
  dsimp only at h ⊢
  split at h
  · exact ⟨by simp, by simp, run_X5_keys E g  h⟩
  · cases h
theorem cm_X5_key (l : Launch) (E : Ex) : CM l SH E yX5_key cX5_key 4 (some .int) 5 f_X5_key := by
  refine cm_of (own := RX5) (T := T_X5_key E ev_X5_key) (K := K_X5_key) (by decide) rfl (by simp) (fun p e s m args below meth c Q D C A ad X => ts_X5_key (d := 5) X ⟨Nat.le_refl _, Nat.le_refl _⟩ ⟨Nat.le_refl _, Nat.le_refl _⟩ (cm_X5_columns l E) (by decide) (cm_X5_isLeastKey l E) (by decide)) (fun as g h => ?_)
  unfold f_X5_key at h ⊢
  dsimp only at h ⊢
  split at h
  · exact ⟨by simp, by simp, run_X5_key E g _ h⟩
  · cases h
