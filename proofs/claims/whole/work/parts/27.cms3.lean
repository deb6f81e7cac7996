/-! CONTRACTS -/
theorem cm_X4_breaker (l : Launch) (E : Ex) : CM l SH E yX4_breaker cX4_breaker 7 (some .int) 3 f_X4_breaker := by
  refine cm_of (own := RX4) (T := T_X4_breaker E ev_X4_breaker) (K := K_X4_breaker) (by decide) rfl (by simp) (fun p e s m args below meth c Q D C A ad X => ts_X4_breaker (d := 3) X ⟨Nat.le_refl _, Nat.le_refl _⟩ ⟨Nat.le_refl _, Nat.le_refl _⟩ (cm_X4_isLaw l E) (by decide) (cm_X2_pairBreaks l E) (by decide)) (fun as g h => ?_)
  unfold f_X4_breaker at h ⊢
  dsimp only at h ⊢
  split at h
  · exact ⟨by simp, by simp, run_X4_breaker E g _ _ _ h⟩
  · cases h
theorem cm_X4_laws (l : Launch) (E : Ex) : CM l SH E yX4_laws cX4_laws 5 (some .int) 5 f_X4_laws := by
  refine cm_of (own := RX4) (T := T_X4_laws E ev_X4_laws) (K := K_X4_laws) (by decide) rfl (by simp) (fun p e s m args below meth c Q D C A ad X => ts_X4_laws (d := 5) X ⟨Nat.le_refl _, Nat.le_refl _⟩ ⟨Nat.le_refl _, Nat.le_refl _⟩ (cm_X4_canSeek l E) (by decide) (cm_X4_count l E) (by decide) (cm_X3_isFound l E) (by decide)) (fun as g h => ?_)
  unfold f_X4_laws at h ⊢
  dsimp only at h ⊢
  split at h
  · exact ⟨by simp, by simp, run_X4_laws E g _ _ h⟩
  · cases h
theorem cm_X4_law (l : Launch) (E : Ex) : CM l SH E yX4_law cX4_law 6 (some .int) 5 f_X4_law := by
  refine cm_of (own := RX4) (T := T_X4_law E ev_X4_law) (K := K_X4_law) (by decide) rfl (by simp) (fun p e s m args below meth c Q D C A ad X => ts_X4_law (d := 5) X ⟨Nat.le_refl _, Nat.le_refl _⟩ ⟨Nat.le_refl _, Nat.le_refl _⟩ (cm_X4_canSeek l E) (by decide) (cm_X4_count l E) (by decide) (cm_X3_isFound l E) (by decide)) (fun as g h => ?_)
  unfold f_X4_law at h ⊢
  dsimp only at h ⊢
  split at h
  · exact ⟨by simp, by simp, run_X4_law E g _ _ _ h⟩
  · cases h
theorem cm_X4_settles (l : Launch) (E : Ex) : CM l SH E yX4_settles cX4_settles 4 (some .int) 5 f_X4_settles := by
  refine cm_of (own := RX4) (T := T_X4_settles E ev_X4_settles) (K := K_X4_settles) (by decide) rfl (by simp) (fun p e s m args below meth c Q D C A ad X => ts_X4_settles (d := 5) X ⟨Nat.le_refl _, Nat.le_refl _⟩ ⟨Nat.le_refl _, Nat.le_refl _⟩ (cm_X4_count l E) (by decide) (cm_X4_alikeLaw l E) (by decide)) (fun as g h => ?_)
  unfold f_X4_settles at h ⊢
  dsimp only at h ⊢
  split at h
  · exact ⟨by simp, by simp, run_X4_settles E g _ h⟩
  · cases h
theorem cm_X4_keys (l : Launch) (E : Ex) : CM l SH E yX4_keys cX4_keys 3 (some .int) 5 f_X4_keys := by
  refine cm_of (own := RX4) (T := T_X4_keys E ev_X4_keys) (K := K_X4_keys) (by decide) rfl (by simp) (fun p e s m args below meth c Q D C A ad X => ts_X4_keys (d := 5) X ⟨Nat.le_refl _, Nat.le_refl _⟩ ⟨Nat.le_refl _, Nat.le_refl _⟩ (cm_X4_count l E) (by decide) (cm_X3_isLeastKey l E) (by decide)) (fun as g h => ?_)
  unfold f_X4_keys at h ⊢
  dsimp only at h ⊢
  split at h
  · exact ⟨by simp, by simp, run_X4_keys E g  h⟩
  · cases h
theorem cm_X4_key (l : Launch) (E : Ex) : CM l SH E yX4_key cX4_key 4 (some .int) 5 f_X4_key := by
  refine cm_of (own := RX4) (T := T_X4_key E ev_X4_key) (K := K_X4_key) (by decide) rfl (by simp) (fun p e s m args below meth c Q D C A ad X => ts_X4_key (d := 5) X ⟨Nat.le_refl _, Nat.le_refl _⟩ ⟨Nat.le_refl _, Nat.le_refl _⟩ (cm_X4_count l E) (by decide) (cm_X3_isLeastKey l E) (by decide)) (fun as g h => ?_)
  unfold f_X4_key at h ⊢
  dsimp only at h ⊢
  split at h
  · exact ⟨by simp, by simp, run_X4_key E g _ h⟩
  · cases h
