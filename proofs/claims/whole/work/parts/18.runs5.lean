/-! RUNS: counting the pairs -/
theorem seenP_0 (rw : Nat → Bool) (bt : Nat → Nat → Nat) (f : Nat → Int32) : filF f 625 (nI 0) = seenP rw bt f 0 0 := by
  funext b
  simp only [filF, seenP, sm]
theorem seenP_next (rw : Nat → Bool) (bt : Nat → Nat → Nat) (f : Nat → Int32) (s : Nat) : seenP rw bt f s 16 = seenP rw bt f (s + 1) 0 := by
  funext b
  simp only [seenP, sm, Nat.add_zero]
theorem seenP_skip {rw : Nat → Bool} {bt : Nat → Nat → Nat} {f : Nat → Int32} {s t : Nat} (h : ∀ b, pair2 rw bt s t b = 0) : seenP rw bt f s t = seenP rw bt f s (t + 1) := by
  funext b
  simp only [seenP, sm, h b, Nat.add_zero]
theorem seenP_hit {rw : Nat → Bool} {bt : Nat → Nat → Nat} {f : Nat → Int32} {s t : Nat} (h1 : ¬ s = t) (h2 : rw s = true) (h3 : rw t = true) (hb : bt s t < 625) : upd (seenP rw bt f s t) (bt s t) (seenP rw bt f s t (bt s t) + nI 1) = seenP rw bt f s (t + 1) := by
  funext b
  unfold upd
  by_cases k : b = bt s t
  · subst k
    rw [if_pos rfl]
    simp only [seenP, sm]
    rw [if_pos hb, if_pos hb, nI_add]
    have : pair2 rw bt s t (bt s t) = 1 := by simp [pair2, h1, h2, h3, ct1]
    rw [this, Nat.add_assoc]
  · rw [if_neg k]
    simp only [seenP, sm]
    have : pair2 rw bt s t b = 0 := by
      have k' : ¬ bt s t = b := fun q => k q.symm
      simp [pair2, k', ct1]
    rw [this, Nat.add_zero]
theorem pair2_eq {rw : Nat → Bool} {bt : Nat → Nat → Nat} {s t : Nat} (h : s = t) (b : Nat) : pair2 rw bt s t b = 0 := by simp [pair2, h, ct1]
theorem pair2_s {rw : Nat → Bool} {bt : Nat → Nat → Nat} {s t : Nat} (h : rw s = false) (b : Nat) : pair2 rw bt s t b = 0 := by simp [pair2, h, ct1]
theorem pair2_t {rw : Nat → Bool} {bt : Nat → Nat → Nat} {s t : Nat} (h : rw t = false) (b : Nat) : pair2 rw bt s t b = 0 := by simp [pair2, h, ct1]
theorem run_X5_counts (E : Ex) (g : Sg) (h : (inB (g 52 128) 5) = true) : Rn (T_X5_counts E ev_X5_counts) K_X5_counts 0 [some (.inr (some 51))] [] g (none, us g 54 (seenP (rwM g) (btw (tn (g 52 128)) (nmM g)) (g 54) 16 0)) := by
  obtain ⟨C, hC, e⟩ := (inB_iff (by decide)).mp h
  rw [e, tn_nI' (by omega)]
  refine Rn_go (blk_X5_counts_0 E g) ?_
  have e0 : us g 54 (filF (g 54) 0 (nI 0)) = g := by
    have : filF (g 54) 0 (nI 0) = g 54 := by funext j; simp [filF]
    rw [this, us_id]
  have key := Rn_loop (T := T_X5_counts E ev_X5_counts) (K := K_X5_counts) (pc := 2) (o := (none, us g 54 (seenP (rwM g) (btw C (nmM g)) (g 54) 16 0))) (fun j => [some (.inr (some 51)), some (.inl (nI j))]) (fun j => us g 54 (filF (g 54) j (nI 0))) 625 (fun j hj => ?_) ?_
  · rw [e0] at key
    exact key
  · rw [blk_X5_counts_2]
    simp (disch := omega) only [nI_leI, nI_ltI, nI_eq, tn_nI, tn_nI', inB_eq, decide_eq_true_eq, Bool.and_eq_true, decide_true, Bool.and_true, Bool.true_and, Bool.and_self, nI_add, pk_mul, fiv_eq, if_pos, if_neg, ↓reduceIte, b2i_0, and_self, and_true, true_and]
    rw [us_us, us_s, fil_step]
  refine Rn_go (by rw [blk_X5_counts_2, if_pos (nI_le (by omega) (by decide))]) ?_
  rw [seenP_0 (rwM g) (btw C (nmM g)) (g 54)]
  refine Rn_loop (fun s => [some (.inr (some 51)), some (.inl (nI s))]) (fun s => us g 54 (seenP (rwM g) (btw C (nmM g)) (g 54) s 0)) 0 (fun j hj => by omega) ?_
  have inner : ∀ s, s < 16 → ∀ o, Rn (T_X5_counts E ev_X5_counts) K_X5_counts 24 [some (.inr (some 51)), some (.inl (nI (s + 1)))] [] (us g 54 (seenP (rwM g) (btw C (nmM g)) (g 54) (s + 1) 0)) o → Rn (T_X5_counts E ev_X5_counts) K_X5_counts 24 [some (.inr (some 51)), some (.inl (nI s))] [] (us g 54 (seenP (rwM g) (btw C (nmM g)) (g 54) s 0)) o := by
    intro s hs o ho
    refine Rn_go (by rw [blk_X5_counts_24, if_neg (nI_ge hs (by decide))]) ?_
    refine Rn_loop (fun t => [some (.inr (some 51)), some (.inl (nI s)), some (.inl (nI t))]) (fun t => us g 54 (seenP (rwM g) (btw C (nmM g)) (g 54) s t)) 16 (fun t ht => ?_) (Rn_go (pc' := 24) ?_ ho)
    · have hb := btw_lt (C := C) (by omega) (nmM g) s t
      rw [blk_X5_counts_32]
      have r1 : ∀ f, rwM (us g 54 f) = rwM g := fun f => rfl
      have r2 : ∀ f, nmM (us g 54 f) = nmM g := fun f => rfl
      have r3 : ∀ f, us g 54 f 52 128 = g 52 128 := fun f => rfl
      rw [r1, r2, r3, e]
      simp (disch := omega) only [nI_leI, nI_ltI, nI_eq, tn_nI, tn_nI', inB_eq, decide_eq_true_eq, Bool.and_eq_true, decide_true, Bool.and_true, Bool.true_and, Bool.and_self, nI_add, pk_mul, fiv_eq, if_pos, if_neg, ↓reduceIte, b2i_0, and_self, and_true, true_and]
      by_cases k1 : s = t
      · rw [if_pos k1, seenP_skip (pair2_eq k1)]
      rw [if_neg k1]
      cases k2 : rwM g s with
      | false =>
        rw [seenP_skip (t := t) (pair2_s k2)]
        simp [hs]
      | true =>
        cases k3 : rwM g t with
        | false =>
          rw [seenP_skip (t := t) (pair2_t k3)]
          simp [hs, ht]
        | true =>
          rw [us_us, us_s, seenP_hit k1 k2 k3 hb]
          simp [hs, ht]
    · rw [blk_X5_counts_32, if_pos (nI_le (by omega) (by decide)), nI_add, seenP_next]
  have hx : ∀ k, k ≤ 16 → Rn (T_X5_counts E ev_X5_counts) K_X5_counts 24 [some (.inr (some 51)), some (.inl (nI (16 - k)))] [] (us g 54 (seenP (rwM g) (btw C (nmM g)) (g 54) (16 - k) 0)) (none, us g 54 (seenP (rwM g) (btw C (nmM g)) (g 54) 16 0)) := by
    intro k
    induction k with
    | zero =>
      intro _
      refine Rn_ret ?_
      rw [blk_X5_counts_24, if_pos (nI_le (by omega) (by decide))]
    | succ k ih =>
      intro hk
      refine inner (16 - (k + 1)) (by omega) _ ?_
      have := ih (by omega)
      rw [show 16 - k = 16 - (k + 1) + 1 by omega] at this
      exact this
  exact hx 16 (Nat.le_refl _)
theorem run_X3_recount (E : Ex) (g : Sg) (h : (inB (g 1 0) 5) = true) : Rn (T_X3_recount E ev_X3_recount) K_X3_recount 0 [some (.inr (some 45)), some (.inr (some 1))] [] g (none, recG g) := by
  obtain ⟨C, hC, e⟩ := (inB_iff (by decide)).mp h
  have hp := pow5_b hC
  unfold recG brkF
  rw [e, tn_nI' (by omega)]
  refine Rn_go (blk_X3_recount_0 E g) ?_
  rw [show lnq 46 = 625 from rfl, seenP_0 (rwC g) (btw C (nmC g)) (g 46)]
  generalize ho : ((none, us (us g 46 (seenP (rwC g) (btw C (nmC g)) (g 46) 16 0)) 47 (halP (sumA (cp625 (seenP (rwC g) (btw C (nmC g)) (g 46) 16 0) (g 47)) (5 ^ C) C) (5 ^ C))) : Option AV × Sg) = o
  have inner : ∀ s, s < 16 → Rn (T_X3_recount E ev_X3_recount) K_X3_recount 10 [some (.inr (some 45)), some (.inr (some 1)), some (.inl (nI (s + 1)))] [] (us g 46 (seenP (rwC g) (btw C (nmC g)) (g 46) (s + 1) 0)) o → Rn (T_X3_recount E ev_X3_recount) K_X3_recount 10 [some (.inr (some 45)), some (.inr (some 1)), some (.inl (nI s))] [] (us g 46 (seenP (rwC g) (btw C (nmC g)) (g 46) s 0)) o := by
    intro s hs ho
    refine Rn_go (by rw [blk_X3_recount_10, if_neg (nI_ge hs (by decide))]) ?_
    refine Rn_loop (fun t => [some (.inr (some 45)), some (.inr (some 1)), some (.inl (nI s)), some (.inl (nI t))]) (fun t => us g 46 (seenP (rwC g) (btw C (nmC g)) (g 46) s t)) 16 (fun t ht => ?_) (Rn_go (pc' := 10) ?_ ho)
    · have hb := btw_lt (C := C) (by omega) (nmC g) s t
      rw [blk_X3_recount_18]
      have r1 : ∀ f, rwC (us g 46 f) = rwC g := fun f => rfl
      have r2 : ∀ f, nmC (us g 46 f) = nmC g := fun f => rfl
      have r3 : ∀ f, us g 46 f 1 0 = g 1 0 := fun f => rfl
      rw [r1, r2, r3, e]
      simp (disch := omega) only [nI_leI, nI_ltI, nI_eq, tn_nI, tn_nI', inB_eq, decide_eq_true_eq, Bool.and_eq_true, decide_true, Bool.and_true, Bool.true_and, Bool.and_self, nI_add, pk_mul, fiv_eq, if_pos, if_neg, ↓reduceIte, b2i_0, and_self, and_true, true_and]
      by_cases k1 : s = t
      · rw [if_pos k1, seenP_skip (pair2_eq k1)]
      rw [if_neg k1]
      cases k2 : rwC g s with
      | false =>
        rw [seenP_skip (t := t) (pair2_s k2)]
        simp [hs]
      | true =>
        cases k3 : rwC g t with
        | false =>
          rw [seenP_skip (t := t) (pair2_t k3)]
          simp [hs, ht]
        | true =>
          rw [us_us, us_s, seenP_hit k1 k2 k3 hb]
          simp [hs, ht]
    · rw [blk_X3_recount_18, if_pos (nI_le (by omega) (by decide)), nI_add, seenP_next]
  have hend : Rn (T_X3_recount E ev_X3_recount) K_X3_recount 10 [some (.inr (some 45)), some (.inr (some 1)), some (.inl (nI 16))] [] (us g 46 (seenP (rwC g) (btw C (nmC g)) (g 46) 16 0)) o := by
    generalize seenP (rwC g) (btw C (nmC g)) (g 46) 16 0 = S at ho
    refine Rn_go (by rw [blk_X3_recount_10, if_pos (nI_le (by omega) (by decide))]) ?_
    refine Rn_loop (fun c => [some (.inr (some 45)), some (.inr (some 1)), some (.inl (nI c))]) (fun c => us (us g 46 S) 47 (sumA (cp625 S (g 47)) (5 ^ C) c)) C (fun c hc => ?_) (Rn_ret ?_)
    · rw [blk_X3_recount_90]
      have r3 : ∀ f, us (us g 46 S) 47 f 1 0 = g 1 0 := fun f => rfl
      rw [r3, e]
      simp (disch := omega) only [nI_leI, nI_ltI, nI_eq, tn_nI, tn_nI', inB_eq, decide_eq_true_eq, Bool.and_eq_true, decide_true, Bool.and_true, Bool.true_and, Bool.and_self, nI_add, pk_mul, fiv_eq, if_pos, if_neg, ↓reduceIte, b2i_0, and_self, and_true, true_and, pw5_is hC hc]
      rw [us_us, us_s]
      rfl
    · rw [blk_X3_recount_90]
      have r3 : ∀ f, us (us g 46 S) 47 f 1 0 = g 1 0 := fun f => rfl
      rw [r3, e, ← ho]
      simp (disch := omega) only [nI_leI, nI_ltI, nI_eq, tn_nI, tn_nI', inB_eq, decide_eq_true_eq, Bool.and_eq_true, decide_true, Bool.and_true, Bool.true_and, Bool.and_self, nI_add, pk_mul, fiv_eq, if_pos, if_neg, ↓reduceIte, b2i_0, and_self, and_true, true_and]
      rw [us_us, us_s]
  have hx : ∀ k, k ≤ 16 → Rn (T_X3_recount E ev_X3_recount) K_X3_recount 10 [some (.inr (some 45)), some (.inr (some 1)), some (.inl (nI (16 - k)))] [] (us g 46 (seenP (rwC g) (btw C (nmC g)) (g 46) (16 - k) 0)) o := by
    intro k
    induction k with
    | zero => exact fun _ => hend
    | succ k ih =>
      intro hk
      refine inner (16 - (k + 1)) (by omega) ?_
      have := ih (by omega)
      rw [show 16 - k = 16 - (k + 1) + 1 by omega] at this
      exact this
  exact hx 16 (Nat.le_refl _)
