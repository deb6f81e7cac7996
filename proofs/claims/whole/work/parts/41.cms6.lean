/-! CONTRACTS -/
theorem cm_X1_cost (l : Launch) (E : Ex) : CM l SH E yX1_cost cX1_cost 1 (some .int) 0 f_X1_cost := by
  refine cm_of (own := RX1) (T := T_X1_cost E ev_X1_cost) (K := K_X1_cost) (by decide) rfl (by simp) (fun p e s m args below meth c Q D C A ad X => ts_X1_cost (d := 0) X ⟨Nat.le_refl _, Nat.le_refl _⟩ ⟨Nat.le_refl _, Nat.le_refl _⟩ ) (fun as g h => ?_)
  unfold f_X1_cost at h ⊢
  dsimp only at h ⊢
  split at h
  · exact ⟨by simp, by simp, run_X1_cost E g  h⟩
  · cases h
theorem cm_X1_slots (l : Launch) (E : Ex) : CM l SH E yX1_slots cX1_slots 1 (some .int) 0 f_X1_slots := by
  refine cm_of (own := RX1) (T := T_X1_slots E ev_X1_slots) (K := K_X1_slots) (by decide) rfl (by simp) (fun p e s m args below meth c Q D C A ad X => ts_X1_slots (d := 0) X ⟨Nat.le_refl _, Nat.le_refl _⟩ ⟨Nat.le_refl _, Nat.le_refl _⟩ ) (fun as g h => ?_)
  unfold f_X1_slots at h ⊢
  dsimp only at h ⊢
  split at h
  · exact ⟨by simp, by simp, run_X1_slots E g  h⟩
  · cases h
theorem cm_X1_breaksOne (l : Launch) (E : Ex) : CM l SH E yX1_breaksOne cX1_breaksOne 4 (some .boolean) 3 f_X1_breaksOne := by
  refine cm_of (own := RX1) (T := T_X1_breaksOne E ev_X1_breaksOne) (K := K_X1_breaksOne) (by decide) rfl (by simp) (fun p e s m args below meth c Q D C A ad X => ts_X1_breaksOne (d := 3) X ⟨Nat.le_refl _, Nat.le_refl _⟩ ⟨Nat.le_refl _, Nat.le_refl _⟩ (cm_X2_pairBreaks l E) (by decide)) (fun as g h => ?_)
  unfold f_X1_breaksOne at h ⊢
  dsimp only at h ⊢
  split at h
  · exact ⟨by simp, by simp, run_X1_breaksOne E g _ _ h⟩
  · cases h
theorem cm_X1_seek (l : Launch) (E : Ex) : CM l SH E yX1_seek cX1_seek 4 (none) 21 f_X1_seek := by
  refine cm_of (own := RX1) (T := T_X1_seek E ev_X1_seek) (K := K_X1_seek) (by decide) rfl (by simp) (fun p e s m args below meth c Q D C A ad X => ts_X1_seek (d := 21) X ⟨Nat.le_refl _, Nat.le_refl _⟩ ⟨Nat.le_refl _, Nat.le_refl _⟩ (cm_X2_hasRow l E) (by decide) (cm_X1_breaksOne l E) (by decide) (cm_X1_lightestCover l E) (by decide)) (fun as g h => ?_)
  unfold f_X1_seek at h ⊢
  dsimp only at h ⊢
  split at h
  · exact ⟨by simp, by simp, run_X1_seek E g  h⟩
  · cases h
theorem cm_X4_mend (l : Launch) (E : Ex) : CM l SH E yX4_mend cX4_mend 2 (some .int) 22 f_X4_mend := by
  refine cm_of (own := RX4) (T := T_X4_mend E ev_X4_mend) (K := K_X4_mend) (by decide) rfl (by simp) (fun p e s m args below meth c Q D C A ad X => ts_X4_mend (d := 22) X ⟨Nat.le_refl _, Nat.le_refl _⟩ ⟨Nat.le_refl _, Nat.le_refl _⟩ (cm_X1_seek l E) (by decide) (cm_X1_cost l E) (by decide) (cm_X1_slots l E) (by decide)) (fun as g h => ?_)
  unfold f_X4_mend at h ⊢
  dsimp only at h ⊢
  split at h
  · exact ⟨by simp, by simp, run_X4_mend E g _ h⟩
  · cases h
