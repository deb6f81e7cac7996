/-! CONTRACTS -/
theorem cm_X5_conflicts (l : Launch) (E : Ex) : CM l SH E yX5_conflicts cX5_conflicts 6 (some .int) 4 f_X5_conflicts := by
  refine cm_of (own := RX5) (T := T_X5_conflicts E ev_X5_conflicts) (K := K_X5_conflicts) (by decide) rfl (by simp) (fun p e s m args below meth c Q D C A ad X => ts_X5_conflicts (d := 4) X ⟨Nat.le_refl _, Nat.le_refl _⟩ ⟨Nat.le_refl _, Nat.le_refl _⟩ (cm_X5_told l E) (by decide) (cm_X5_breaks l E) (by decide)) (fun as g h => ?_)
  unfold f_X5_conflicts at h ⊢
  dsimp only at h ⊢
  split at h
  · exact ⟨by simp, by simp, run_X5_conflicts E g  h⟩
  · cases h
theorem cm_X5_mend (l : Launch) (E : Ex) : CM l SH E yX5_mend cX5_mend 10 (some .int) 5 f_X5_mend := by
  refine cm_of (own := RX5) (T := T_X5_mend E ev_X5_mend) (K := K_X5_mend) (by decide) rfl (by simp) (fun p e s m args below meth c Q D C A ad X => ts_X5_mend (d := 5) X ⟨Nat.le_refl _, Nat.le_refl _⟩ ⟨Nat.le_refl _, Nat.le_refl _⟩ (cm_X5_isIn l E) (by decide) (cm_X5_conflicts l E) (by decide) (cm_X5_get l E) (by decide)) (fun as g h => ?_)
  unfold f_X5_mend at h ⊢
  dsimp only at h ⊢
  split at h
  · exact ⟨by simp, by simp, run_X5_mend E g _ h⟩
  · cases h
