/-! THE COVER'S CONTRACT, AND MENDING -/
theorem cm_J6_bitCount_0f7a4 (l : Launch) (E : Ex) : CM l SH E yJ6_bitCount_0f7a4 cJ6_bitCount_0f7a4 1 (some .int) 0 f_J6_bitCount_0f7a4 := by
  refine cm_of (own := RJ6) (T := T_J6_bitCount_0f7a4 E ev_J6_bitCount_0f7a4) (K := K_J6_bitCount_0f7a4) (by decide) rfl (by simp) (fun p e s m args below meth c Q D C A ad X => ts_J6_bitCount_0f7a4 (d := 0) X ⟨Nat.le_refl _, Nat.le_refl _⟩ ⟨Nat.le_refl _, Nat.le_refl _⟩) (fun as g h => ?_)
  unfold f_J6_bitCount_0f7a4 at h ⊢
  dsimp only at h ⊢
  split at h
  · exact ⟨by simp, by simp, run_J6_bitCount_0f7a4 E g _ h⟩
  · cases h
theorem cm_X1_weightOf (l : Launch) (E : Ex) : CM l SH E yX1_weightOf cX1_weightOf 4 (some .int) 0 f_X1_weightOf := by
  refine cm_of (own := RX1) (T := T_X1_weightOf E ev_X1_weightOf) (K := K_X1_weightOf) (by decide) rfl (by simp) (fun p e s m args below meth c Q D C A ad X => ts_X1_weightOf (d := 0) X ⟨Nat.le_refl _, Nat.le_refl _⟩ ⟨Nat.le_refl _, Nat.le_refl _⟩) (fun as g h => ?_)
  unfold f_X1_weightOf at h ⊢
  dsimp only at h ⊢
  split at h
  · exact ⟨by simp, by simp, run_X1_weightOf E g _ h⟩
  · cases h
theorem cm_X1_busiest (l : Launch) (E : Ex) : CM l SH E yX1_busiest cX1_busiest 6 (some .int) 1 f_X1_busiest := by
  refine cm_of (own := RX1) (T := T_X1_busiest E ev_X1_busiest) (K := K_X1_busiest) (by decide) rfl (by simp) (fun p e s m args below meth c Q D C A ad X => ts_X1_busiest (d := 1) X ⟨Nat.le_refl _, Nat.le_refl _⟩ ⟨Nat.le_refl _, Nat.le_refl _⟩ (cm_J6_bitCount_0f7a4 l E) (by decide)) (fun as g h => ?_)
  unfold f_X1_busiest at h ⊢
  dsimp only at h ⊢
  split at h
  · exact ⟨by simp, by simp, run_X1_busiest E g _ h⟩
  · cases h
theorem cm_lcd (l : Launch) (E : Ex) : ∀ d, CM l SH E yX1_lightestCover cX1_lightestCover 10 (some .int) (2 + d) (f_lcd d)
  | 0 => by
    intro D C ad sz as g h
    unfold f_lcd at h
    dsimp only at h
    split at h
    · simp at h
    · cases h
  | d + 1 => by
    refine cm_of (own := RX1) (T := T_X1_lightestCover E (ev_lcd d)) (K := K_X1_lightestCover) (by decide) rfl (by simp) (fun p e s m args below meth c Q D C A ad X => ts_X1_lightestCover (env := ev_lcd d) (d := 2 + (d + 1)) X ⟨Nat.le_refl _, Nat.le_refl _⟩ ⟨Nat.le_refl _, Nat.le_refl _⟩ (by omega) (cm_X1_busiest l E) (by omega) (cm_X1_weightOf l E) (by omega) (cm_lcd l E d) (by omega) (cm_J6_bitCount_0f7a4 l E) (by omega)) (fun as g h => ?_)
    unfold f_lcd at h ⊢
    dsimp only at h ⊢
    split at h
    · exact ⟨by simp, by simp, run_lcd E d g _ _ h⟩
    · cases h
theorem cm_X1_lightestCover (l : Launch) (E : Ex) : CM l SH E yX1_lightestCover cX1_lightestCover 10 (some .int) 20 f_X1_lightestCover := by
  intro D C ad sz as g h
  have key := cm_lcd l E 18 D C ad sz as g
  unfold f_X1_lightestCover at h ⊢
  unfold f_lcd at key
  dsimp only at h key ⊢
  split at h
  · rename_i a2 a3
    refine key ?_
    show (inB a2 65536 && foesOK g && inB a3 18 && decide (17 - tn a3 < 18)) = true
    rw [h]
    simp
    omega
  · cases h
theorem msk_lt (P : Nat → Bool) : ∀ n, mskN P n < 2 ^ n
  | 0 => by simp [mskN, sm]
  | n + 1 => by
    have := msk_lt P n
    show mskN P n + (if P n = true then 2 ^ n else 0) < 2 ^ (n + 1)
    rw [Nat.pow_succ]
    split <;> omega
theorem msk_bit (P : Nat → Bool) : ∀ n i, Nat.testBit (mskN P n) i = (decide (i < n) && P i)
  | 0, i => by simp [mskN, sm]
  | n + 1, i => by
    have hl := msk_lt P n
    have ih := msk_bit P n
    have e : mskN P (n + 1) = (if P n = true then 2 ^ n else 0) + mskN P n := by
      show mskN P n + (if P n = true then 2 ^ n else 0) = _
      exact Nat.add_comm _ _
    rw [e]
    by_cases hi : i = n
    · subst hi
      cases hp : P i with
      | true =>
        rw [if_pos rfl, Nat.testBit_two_pow_add_eq, ih i]
        simp
      | false =>
        rw [if_neg (by decide), Nat.zero_add, ih i]
        simp
    · cases hp : P n with
      | true =>
        rw [if_pos rfl]
        rcases Nat.lt_or_ge i n with q | q
        · rw [Nat.testBit_two_pow_add_gt q, ih i]
          simp [q, show i < n + 1 by omega]
        · have : 2 ^ n + mskN P n < 2 ^ i := by
            have : 2 ^ (n + 1) ≤ 2 ^ i := Nat.pow_le_pow_right (by decide) (by omega)
            rw [Nat.pow_succ] at this
            omega
          rw [Nat.testBit_lt_two_pow this]
          simp [show ¬ i < n + 1 by omega]
      | false =>
        rw [if_neg (by decide), Nat.zero_add, ih i]
        by_cases q : i < n
        · simp [q, show i < n + 1 by omega]
        · simp [q, show ¬ i < n + 1 by omega]
theorem msk_or (P : Nat → Bool) {n t : Nat} (ht : t < n) : mskN P n ||| 2 ^ t = mskN (fun y => P y || decide (y = t)) n := by
  apply Nat.eq_of_testBit_eq
  intro i
  rw [Nat.testBit_or, msk_bit, msk_bit, Nat.testBit_two_pow]
  by_cases h : i = t
  · subst h
    simp [ht]
  · have h' : ¬ t = i := fun q => h q.symm
    simp [h, h']
theorem FP_step {B : Nat → Nat → Bool} {s t x y : Nat} (hst : s < t) : FP B s (t + 1) x y = (FP B s t x y || (B s t && ((decide (x = s) && decide (y = t)) || (decide (x = t) && decide (y = s))))) := by
  unfold FP
  by_cases h1 : x = y
  · subst h1
    have : ¬ (x = s ∧ x = t) := by omega
    have : ¬ (x = t ∧ x = s) := by omega
    by_cases a : x = s
    · have b : ¬ x = t := by omega
      simp [a, show ¬ s = t by omega]
    · by_cases b : x = t
      · simp [b, show ¬ t = s by omega]
      · simp [a, b]
  · by_cases hm : min x y = s
    · by_cases hM : max x y = t
      · rw [hm, hM]
        have : (x = s ∧ y = t) ∨ (x = t ∧ y = s) := by omega
        rcases this with ⟨a, b⟩ | ⟨a, b⟩
        · subst a b
          simp [show ¬ x = y by omega]
        · subst a b
          simp [show ¬ x = y by omega]
      · have n1 : ¬ (x = s ∧ y = t) := by omega
        have n2 : ¬ (x = t ∧ y = s) := by omega
        have e : (max x y < t + 1) = (max x y < t) := by simp; omega
        have z : ((decide (x = s) && decide (y = t)) || (decide (x = t) && decide (y = s))) = false := by
          cases hb : ((decide (x = s) && decide (y = t)) || (decide (x = t) && decide (y = s))) with
          | false => rfl
          | true =>
            simp only [Bool.or_eq_true, Bool.and_eq_true, decide_eq_true_eq] at hb
            rcases hb with q | q
            · exact absurd q n1
            · exact absurd q n2
        rw [z]
        simp only [e, Bool.and_false, Bool.or_false]
    · have n1 : ¬ (x = s ∧ y = t) := by omega
      have n2 : ¬ (x = t ∧ y = s) := by omega
      have z : ((decide (x = s) && decide (y = t)) || (decide (x = t) && decide (y = s))) = false := by
        cases hb : ((decide (x = s) && decide (y = t)) || (decide (x = t) && decide (y = s))) with
        | false => rfl
        | true =>
          simp only [Bool.or_eq_true, Bool.and_eq_true, decide_eq_true_eq] at hb
          rcases hb with q | q
          · exact absurd q n1
          · exact absurd q n2
      rw [z]
      simp [hm]
theorem FP_next {B : Nat → Nat → Bool} {s x y : Nat} (hx : x < 16) (hy : y < 16) : FP B s 16 x y = FP B (s + 1) (s + 2) x y := by
  unfold FP
  by_cases h1 : x = y
  · simp [h1]
  · by_cases h2 : min x y < s
    · simp [h2, show min x y < s + 1 by omega]
    · by_cases h3 : min x y = s
      · simp [h3, show max x y < 16 by omega]
      · have a : ¬ min x y < s + 1 := by omega
        by_cases h4 : min x y = s + 1
        · have b : ¬ max x y < s + 2 := by omega
          simp [h2, h3, a, b]
        · simp [h2, h3, a, h4]
theorem foF_next {B : Nat → Nat → Bool} (f : Nat → Int32) (s : Nat) : foF B f s 16 = foF B f (s + 1) (s + 2) := by
  funext x
  unfold foF
  by_cases hx : x < 16
  · rw [if_pos hx, if_pos hx]
    congr 1
    exact msk_congr fun y hy => FP_next hx hy
  · rw [if_neg hx, if_neg hx]
theorem foF_skip {B : Nat → Nat → Bool} (f : Nat → Int32) {s t : Nat} (hst : s < t) (hB : B s t = false) : foF B f s t = foF B f s (t + 1) := by
  funext x
  unfold foF
  by_cases hx : x < 16
  · rw [if_pos hx, if_pos hx]
    congr 1
    exact msk_congr fun y hy => by rw [FP_step hst, hB]; simp
  · rw [if_neg hx, if_neg hx]
theorem foF_hit {B : Nat → Nat → Bool} (f : Nat → Int32) {s t : Nat} (hst : s < t) (ht : t < 16) (hB : B s t = true) : upd (upd (foF B f s t) s (foF B f s t s ||| nI (2 ^ t))) t (upd (foF B f s t) s (foF B f s t s ||| nI (2 ^ t)) t ||| nI (2 ^ s)) = foF B f s (t + 1) := by
  have hs : s < 16 := by omega
  have e1 : ∀ x, x < 16 → foF B f s t x = nI (mskN (FP B s t x) 16) := fun x hx => by unfold foF; rw [if_pos hx]
  rw [pk_un (show t ≠ s by omega), e1 s hs, e1 t ht, nI_or, nI_or, msk_or _ ht, msk_or _ hs]
  funext x
  unfold upd
  by_cases k1 : x = t
  · subst k1
    rw [if_pos rfl]
    unfold foF
    rw [if_pos ht]
    congr 1
    refine msk_congr fun y hy => ?_
    rw [FP_step hst, hB]
    simp [show ¬ x = s by omega]
  · rw [if_neg k1]
    by_cases k2 : x = s
    · subst k2
      rw [if_pos rfl]
      unfold foF
      rw [if_pos hs]
      congr 1
      refine msk_congr fun y hy => ?_
      rw [FP_step hst, hB]
      simp [k1]
    · rw [if_neg k2]
      unfold foF
      by_cases hx : x < 16
      · rw [if_pos hx, if_pos hx]
        congr 1
        refine msk_congr fun y hy => ?_
        rw [FP_step hst]
        simp [k1, k2]
      · rw [if_neg hx, if_neg hx]
theorem run_X1_seek (E : Ex) (g : Sg) (h : (gC g && toldOK g) = true) : Rn (T_X1_seek E ev_X1_seek) K_X1_seek 0 [some (.inr (some 48)), some (.inr (some 1))] [] g (none, seekG g) := by
  rw [Bool.and_eq_true] at h
  refine Rn_go (blk_X1_seek_0 E g) ?_
  have f0 : ∀ n, filF (g 49) n (nI 0) = filF (g 49) n (nI 0) := fun _ => rfl
  generalize ho : ((none, seekG g) : Option AV × Sg) = o
  -- first loop
  have l1 := Rn_loop (T := T_X1_seek E ev_X1_seek) (K := K_X1_seek) (pc := 7) (o := o) (fun j => [some (.inr (some 48)), some (.inr (some 1)), some (.inl (nI j))]) (fun j => us (us (us g 48 (upd (g 48) 2 (nI 0))) 49 (filF (g 49) j (nI 0))) 50 (wtF g (g 50) j)) 16 (fun j hj => ?_) ?_
  · have e1 : filF (g 49) 0 (nI 0) = g 49 := by funext j; simp [filF]
    have e2 : wtF g (g 50) 0 = g 50 := by funext j; simp [wtF]
    rw [e1, e2] at l1
    have e3 : us (us g 48 (upd (g 48) 2 (nI 0))) 49 (g 49) = us g 48 (upd (g 48) 2 (nI 0)) := us_id (us g 48 (upd (g 48) 2 (nI 0))) 49
    have e4 : us (us g 48 (upd (g 48) 2 (nI 0))) 50 (g 50) = us g 48 (upd (g 48) 2 (nI 0)) := us_id (us g 48 (upd (g 48) 2 (nI 0))) 50
    rw [e3, e4] at l1
    exact l1
  · rw [blk_X1_seek_7]
    have r1 : ∀ a b c x, rwC (us (us (us (us g 48 a) 49 b) 50 c) 49 x) = rwC g := fun a b c x => rfl
    have r2 : ∀ a b c, us (us (us g 48 a) 49 b) 50 c 49 = b := fun a b c => rfl
    have r3 : ∀ a b c, us (us (us g 48 a) 49 b) 50 c 50 = c := fun a b c => rfl
    have r4 : ∀ a b c, us (us (us g 48 a) 49 b) 50 c 4 = g 4 := fun a b c => rfl
    rw [r1, r2, r3, r4, shl1 j (by omega)]
    simp (disch := omega) only [nI_leI, nI_ltI, nI_eq, tn_nI, tn_nI', inB_eq, decide_eq_true_eq, Bool.and_eq_true, decide_true, Bool.and_true, Bool.true_and, Bool.and_self, nI_add, pk_mul, fiv_eq, if_pos, if_neg, ↓reduceIte, b2i_0, and_self, and_true, true_and]
    have s1 : ∀ x, upd (wtF g (g 50) j) j x = fun i => if i < j then wt1 g i else if i = j then x else g 50 i := by
      intro x
      funext i
      unfold upd wtF
      by_cases k : i = j
      · subst k; simp
      · rw [if_neg k]
        by_cases k2 : i < j
        · simp [k2]
        · simp [k2, k]
    have s2 : wtF g (g 50) (j + 1) = fun i => if i < j then wt1 g i else if i = j then wt1 g j else g 50 i := by
      funext i
      unfold wtF
      by_cases k2 : i < j
      · simp [k2, show i < j + 1 by omega]
      · by_cases k : i = j
        · subst k; simp
        · simp [k2, k, show ¬ i < j + 1 by omega]
    have com : ∀ (x : Nat → Int32) (y : Nat → Int32), us (us (us (us (us g 48 (upd (g 48) 2 (nI 0))) 49 (filF (g 49) j (nI 0))) 50 (wtF g (g 50) j)) 49 x) 50 y = us (us (us g 48 (upd (g 48) 2 (nI 0))) 49 x) 50 y := by
      intro x y
      rw [us_comm _ (a := 50) (b := 49) _ _ (by decide), us_us, us_us]
    rw [com, com, fil_step, s1, s1, s2]
    unfold wt1
    cases hr : rwC g j <;> simp [hj] <;> rfl
  -- second loops
  refine Rn_go (by rw [blk_X1_seek_7, if_pos (nI_le (by omega) (by decide))]) ?_
  have hF0 : filF (g 49) 16 (nI 0) = foF (b1C g) (g 49) 0 1 := by
    funext x
    unfold filF foF
    by_cases hx : x < 16
    · rw [if_pos hx, if_pos hx]
      congr 1
      have : mskN (FP (b1C g) 0 1 x) 16 = mskN (fun _ => false) 16 := msk_congr fun y hy => by
        unfold FP
        by_cases h1 : x = y
        · simp [h1]
        · by_cases h2 : min x y = 0
          · have : ¬ max x y < 1 := by omega
            simp [h2, this]
          · have : ¬ min x y < 0 := by omega
            simp [h2]
      rw [this]
      rfl
    · rw [if_neg hx, if_neg hx]
  rw [hF0]
  have rB : ∀ a b c, b1C (us (us (us g 48 a) 49 b) 50 c) = b1C g := fun a b c => rfl
  have rC : ∀ a b c, gC (us (us (us g 48 a) 49 b) 50 c) = gC g := fun a b c => rfl
  have rT : ∀ a b c, toldOK (us (us (us g 48 a) 49 b) 50 c) = toldOK g := fun a b c => rfl
  have r48 : ∀ a b c, us (us (us g 48 a) 49 b) 50 c 48 = a := fun a b c => rfl
  have r49 : ∀ a b c, us (us (us g 48 a) 49 b) 50 c 49 = b := fun a b c => rfl
  have r50 : ∀ a b c, us (us (us g 48 a) 49 b) 50 c 50 = c := fun a b c => rfl
  have hx : ∀ k, k ≤ 16 → Rn (T_X1_seek E ev_X1_seek) K_X1_seek 59 [some (.inr (some 48)), some (.inr (some 1)), some (.inl (nI (16 - k)))] [] (us (us (us g 48 (upd (g 48) 2 (nI (cnP (b1C g) (16 - k) 0)))) 49 (foF (b1C g) (g 49) (16 - k) (16 - k + 1))) 50 (wtF g (g 50) 16)) o := by
    intro k
    induction k with
    | zero =>
      intro _
      refine Rn_ret ?_
      have hFe : foF (b1C g) (g 49) 16 17 = foF (b1C g) (g 49) 16 0 := by
        funext x
        unfold foF
        by_cases hx : x < 16
        · rw [if_pos hx, if_pos hx]
          congr 1
          exact msk_congr fun y hy => by
            unfold FP
            have : min x y < 16 := by omega
            simp [this]
        · rw [if_neg hx, if_neg hx]
      have hOK : foesOK (us (us (us g 48 (upd (g 48) 2 (nI (cnP (b1C g) 16 0)))) 49 (foF (b1C g) (g 49) 16 0)) 50 (wtF g (g 50) 16)) = true := by
        refine al_iff.mpr fun x hx => ?_
        show inB (foF (b1C g) (g 49) 16 0 x) 65536 = true
        unfold foF
        rw [if_pos hx]
        exact inB_nI (msk_lt _ 16) (by decide)
      rw [blk_X1_seek_59, if_pos (nI_le (by omega) (by decide)), Nat.sub_zero, hFe, hOK, r48, r49, r50, ← ho]
      have e1 : inB (nI 65535) 65536 = true := inB_nI (by decide) (by decide)
      have e2 : inB (nI 0) 18 = true := inB_nI (by decide) (by decide)
      rw [e1, e2, tn_nI' (by decide), tn_nI' (by decide)]
      unfold seekG
      rw [us_comm _ (a := 50) (b := 48) _ _ (by decide), us_comm _ (a := 49) (b := 48) _ _ (by decide), us_us]
      rw [us_comm _ (a := 50) (b := 48) _ _ (by decide), us_comm _ (a := 49) (b := 48) _ _ (by decide)]
      rfl
    | succ k ih =>
      intro hk
      have nxt := ih (by omega)
      rw [show 16 - k = 16 - (k + 1) + 1 by omega] at nxt
      generalize hs : 16 - (k + 1) = s at nxt ⊢
      have hs16 : s < 16 := by omega
      refine Rn_go (by rw [blk_X1_seek_59, if_neg (nI_ge hs16 (by decide)), nI_add]) ?_
      have l2 := Rn_loop (T := T_X1_seek E ev_X1_seek) (K := K_X1_seek) (pc := 69) (o := o) (fun i => [some (.inr (some 48)), some (.inr (some 1)), some (.inl (nI s)), some (.inl (nI (s + 1 + i)))]) (fun i => us (us (us g 48 (upd (g 48) 2 (nI (cnP (b1C g) s i)))) 49 (foF (b1C g) (g 49) s (s + 1 + i))) 50 (wtF g (g 50) 16)) (15 - s) (fun i hi => ?_) ?_
      · exact l2
      · rw [blk_X1_seek_69, rB, rC, rT, r48, r49, h.1, h.2, shl1 s (by omega), shl1 (s + 1 + i) (by omega)]
        simp (disch := omega) only [nI_leI, nI_ltI, nI_eq, tn_nI, tn_nI', inB_eq, decide_eq_true_eq, Bool.and_eq_true, decide_true, Bool.and_true, Bool.true_and, Bool.and_self, nI_add, pk_mul, fiv_eq, if_pos, if_neg, ↓reduceIte, b2i_0, and_self, and_true, true_and]
        have c1 : cnP (b1C g) s (i + 1) = cnP (b1C g) s i + ct1 (b1C g s (s + 1 + i)) := by
          unfold cnP
          simp only [sm]
          omega
        cases hb : b1C g s (s + 1 + i) with
        | false =>
          rw [c1, hb, foF_skip (t := s + 1 + i) (g 49) (by omega) hb]
          simp [hs16, show s + 1 + i < 16 by omega, ct1_f]
          exact ⟨rfl, rfl⟩
        | true =>
          rw [c1, hb, pk_us, nI_add, upd_upd]
          have com : ∀ (a a2 b b2 : Nat → Int32) (c : Nat → Int32), us (us (us (us (us (us g 48 a) 49 b) 50 c) 48 a2) 49 b2) 49 b2 = us (us (us g 48 a2) 49 b2) 50 c := by
            intro a a2 b b2 c
            rw [us_us, us_comm _ (a := 50) (b := 48) _ _ (by decide), us_comm _ (a := 49) (b := 48) _ _ (by decide), us_us, us_comm _ (a := 50) (b := 49) _ _ (by decide), us_us]
          have com2 : ∀ (a a2 b b1 b2 : Nat → Int32) (c : Nat → Int32), us (us (us (us (us (us g 48 a) 49 b) 50 c) 48 a2) 49 b1) 49 b2 = us (us (us g 48 a2) 49 b2) 50 c := by
            intro a a2 b b1 b2 c
            rw [us_us, us_comm _ (a := 50) (b := 48) _ _ (by decide), us_comm _ (a := 49) (b := 48) _ _ (by decide), us_us, us_comm _ (a := 50) (b := 49) _ _ (by decide), us_us]
          rw [com2, foF_hit (g 49) (by omega) (by omega) hb]
          simp [hs16, show s + 1 + i < 16 by omega, ct1_t]
          exact ⟨rfl, rfl⟩
      · refine Rn_go (pc' := 59) (by rw [blk_X1_seek_69, if_pos (nI_le (by omega) (by omega)), nI_add]) ?_
        have c2 : cnP (b1C g) s (15 - s) = cnP (b1C g) (s + 1) 0 := by
          unfold cnP
          simp only [sm]
          omega
        rw [c2, show s + 1 + (15 - s) = 16 by omega, foF_next]
        exact nxt
  have := hx 16 (Nat.le_refl _)
  exact this
theorem seekG_0 (g : Sg) : seekG g 0 = g 0 := rfl
theorem run_X4_mend (E : Ex) (g : Sg) (a1 : Int32) (h : (gC g && toldOK g) = true) : Rn (T_X4_mend E ev_X4_mend) K_X4_mend 0 [some (.inr (some 0)), some (.inl a1)] [] g (some (.inl (if isI a1 0 2 = true then mdV (mdC g) a1 else -1)), (if isI a1 0 2 = true then mdC g else g)) := by
  refine Rn_ret ?_
  rw [blk_X4_mend_0, if_pos h]
  cases hb : isI a1 0 2 with
  | false =>
    by_cases c1 : a1 < 0
    · rw [if_pos c1]; rfl
    · rw [if_neg c1, if_neg (show ¬ a1 ≤ nI 2 from fun c2 => by have h9 : isI a1 0 2 = true := isI_c.mpr ⟨c1, c2⟩; rw [h9] at hb; cases hb)]; rfl
  | true =>
    obtain ⟨c1, c2⟩ := isI_c.mp hb
    rw [if_neg c1, if_pos (show a1 ≤ nI 2 from c2)]
    unfold mdC mdV
    by_cases k : g 0 5 = 0
    · rw [if_pos k, if_pos rfl, if_pos rfl, if_pos k]
      by_cases w0 : a1 = nI 0
      · have w0' : a1 = 0 := w0
        rw [if_pos w0, if_pos w0']; rfl
      · have w0' : ¬ a1 = 0 := w0
        rw [if_neg w0, if_neg w0']
        by_cases w1 : a1 = nI 1
        · have w1' : a1 = 1 := w1
          rw [if_pos w1, if_pos w1']; rfl
        · have w1' : ¬ a1 = 1 := w1
          rw [if_neg w1, if_neg w1']; rfl
    · rw [if_neg k, if_pos rfl, if_pos rfl, if_neg k]
      by_cases w0 : a1 = nI 0
      · have w0' : a1 = 0 := w0
        rw [if_pos w0, if_pos w0']
      · have w0' : ¬ a1 = 0 := w0
        rw [if_neg w0, if_neg w0']
        by_cases w1 : a1 = nI 1
        · have w1' : a1 = 1 := w1
          rw [if_pos w1, if_pos w1']
        · have w1' : ¬ a1 = 1 := w1
          rw [if_neg w1, if_neg w1']
