/-! RUNS: the leaves -/
theorem run_X4_isSlot (E : Ex) (g : Sg) (a0 : Int32) (h : true = true) : Rn (T_X4_isSlot E ev_X4_isSlot) K_X4_isSlot 0 [some (.inl a0)] [] g (some (.inl (b2i (inB a0 16))), g) := by
  refine Rn_ret ?_
  rw [blk_X4_isSlot_0]
  rcases pk_ix a0 (n := 16) (by decide) with q | q | ⟨j, h1, rfl⟩
  · rw [if_pos q, inB_lt (by decide) q]; rfl
  · rw [inB_ge (by decide) q, if_pos q]
    split <;> rfl
  · rw [inB_nI h1 (by decide), if_neg (nI_pos (by omega)), if_neg (nI_ge h1 (by decide))]; rfl
theorem run_X4_fits (E : Ex) (g : Sg) (a0 a1 : Int32) (h : true = true) : Rn (T_X4_fits E ev_X4_fits) K_X4_fits 0 [some (.inl a0), some (.inl a1)] [] g (some (.inl (b2i (fitB a0 a1))), g) := by
  refine Rn_ret ?_
  rw [blk_X4_fits_0]
  unfold fitB
  have e1 : (nI 4) = (4 : Int32) := rfl
  have e2 : (nI 100) = (100 : Int32) := rfl
  have e3 : (nI 99) = (99 : Int32) := rfl
  rw [e1, e2, e3]
  by_cases c1 : a1 < (-99)
  · have c1' : ¬ (-99) ≤ a1 := Int32.not_le.mpr c1
    by_cases c2 : a0 = 4 <;> by_cases c3 : a1 = 100 <;> simp [c1, c1', c2, c3] <;> rfl
  · have c1' : (-99) ≤ a1 := Int32.not_lt.mp c1
    by_cases c0 : a1 ≤ 99 <;> by_cases c2 : a0 = 4 <;> by_cases c3 : a1 = 100 <;> simp [c1, c1', c0, c2, c3] <;> rfl
theorem run_X4_canSeek (E : Ex) (g : Sg) (a0 a1 : Int32) (h : true = true) : Rn (T_X4_canSeek E ev_X4_canSeek) K_X4_canSeek 0 [some (.inl a0), some (.inl a1)] [] g (some (.inl (b2i (isI a0 0 120 && isI a1 1 4))), g) := by
  refine Rn_ret ?_
  rw [blk_X4_canSeek_0]
  unfold isI
  have e1 : (nI 120) = (120 : Int32) := rfl
  have e2 : (nI 1) = (1 : Int32) := rfl
  have e3 : (nI 4) = (4 : Int32) := rfl
  rw [e1, e2, e3]
  by_cases c1 : a0 < 0
  · simp [c1, Int32.not_le.mpr c1]; rfl
  by_cases c2 : 120 < a0
  · simp [c1, c2, Int32.not_le.mpr c2]; rfl
  by_cases c3 : a1 < 1
  · simp [c1, c2, c3, Int32.not_le.mpr c3]; rfl
  by_cases c4 : 4 < a1
  · simp [c1, c2, c3, c4, Int32.not_le.mpr c4]; rfl
  · simp [c1, c2, c3, c4, Int32.not_lt.mp c1, Int32.not_lt.mp c2, Int32.not_lt.mp c3, Int32.not_lt.mp c4]; rfl
theorem run_X4_isLaw (E : Ex) (g : Sg) (a1 : Int32) (h : (inB (g 1 0) 5) = true) : Rn (T_X4_isLaw E ev_X4_isLaw) K_X4_isLaw 0 [some (.inr (some 0)), some (.inl a1)] [] g (some (.inl (b2i (lawB (tn (g 1 0)) a1))), g) := by
  refine Rn_ret ?_
  rw [blk_X4_isLaw_0]
  obtain ⟨c, hc, e⟩ := (inB_iff (by decide)).mp h
  unfold lawB
  rw [e, tn_nI (by omega), tn_nI' (by omega), fiv_eq c hc, inB_nI hc (by decide), if_pos rfl]
  by_cases c1 : a1 ≤ 0
  · simp [c1, Int32.not_lt.mpr c1]; rfl
  · by_cases c2 : nI (5 ^ c) ≤ a1
    · simp [c1, c2, Int32.not_lt.mpr c2]; rfl
    · simp [c1, c2, Int32.not_le.mp c1, Int32.not_le.mp c2]; rfl
theorem dig_eq {n c : Nat} (hn : n < 625) (hc : c < 5) : nI n / nI (5 ^ c) - nI n / nI (5 ^ c) / nI 5 * nI 5 = nI (D n c) := by
  have h5 : 5 ^ c < 2 ^ 31 := by
    rcases (show c = 0 ∨ c = 1 ∨ c = 2 ∨ c = 3 ∨ c = 4 by omega) with e | e | e | e | e <;> subst e <;> decide
  have hd : n / 5 ^ c ≤ n := Nat.div_le_self _ _
  rw [pk_div (by omega) (Nat.pow_pos (by decide)) h5, pk_rem (by omega) (by decide) (by decide)]
  rfl
theorem run_X4_digitOf (E : Ex) (g : Sg) (a0 a1 : Int32) (h : (inB a0 625 && inB a1 5) = true) : Rn (T_X4_digitOf E ev_X4_digitOf) K_X4_digitOf 0 [some (.inl a0), some (.inl a1)] [] g (some (.inl (nI (D (tn a0) (tn a1)))), g) := by
  refine Rn_ret ?_
  rw [blk_X4_digitOf_0]
  rw [Bool.and_eq_true] at h
  obtain ⟨n, hn, rfl⟩ := (inB_iff (by decide)).mp h.1
  obtain ⟨c, hc, rfl⟩ := (inB_iff (by decide)).mp h.2
  rw [inB_nI hc (by decide), if_pos rfl, if_neg (fiv_ne _), tn_nI (by omega), tn_nI' (by omega), tn_nI' (by omega), fiv_eq c hc, dig_eq hn hc]
theorem run_X4_columnsOf (E : Ex) (g : Sg) (a0 : Int32) (h : (inB a0 625) = true) : Rn (T_X4_columnsOf E ev_X4_columnsOf) K_X4_columnsOf 0 [some (.inl a0)] [] g (some (.inl (nI (cols (tn a0)))), g) := by
  obtain ⟨n, hn, rfl⟩ := (inB_iff (by decide)).mp h
  refine Rn_go (blk_X4_columnsOf_0 E g _) ?_
  rw [tn_nI' (by omega)]
  refine Rn_loop (fun c => [some (.inl (nI n)), some (.inl (nI (sm (fun c => ct1 (!decide (D n c = 0))) c))), some (.inl (nI c))]) (fun _ => g) 4 (fun c hc => ?_) (Rn_ret ?_)
  · have hd := D_lt n c
    rw [blk_X4_columnsOf_4]
    simp only [← nI_0]
    simp (disch := omega) only [nI_leI, nI_ltI, nI_eq, tn_nI, tn_nI', inB_eq, decide_eq_true_eq, Bool.and_eq_true, decide_true, Bool.and_true, Bool.true_and, Bool.and_self, nI_add, pk_mul, fiv_eq, if_pos, if_neg, ↓reduceIte, b2i_0, and_self, and_true, true_and]
    by_cases h0 : D n c = 0 <;> simp [sm, h0, ct1]
  · rw [blk_X4_columnsOf_4, if_pos (nI_le (by omega) (by decide))]
    rfl
theorem tuA_ok : ∀ n, n < 625 → ∀ c, c < 4 → (D n c = 4 → 5 ^ c ≤ tuA n c) ∧ tuA n c < 625 := by decide +kernel
theorem tun_lt : ∀ n, n < 625 → tun n < 625 := by decide +kernel
theorem tun_M : ∀ n, n < 625 → tuM n = tun n := by decide +kernel
theorem run_X4_turnedOf (E : Ex) (g : Sg) (a0 : Int32) (h : (inB a0 625) = true) : Rn (T_X4_turnedOf E ev_X4_turnedOf) K_X4_turnedOf 0 [some (.inl a0)] [] g (some (.inl (nI (tun (tn a0)))), g) := by
  obtain ⟨n, hn, rfl⟩ := (inB_iff (by decide)).mp h
  refine Rn_go (blk_X4_turnedOf_0 E g _) ?_
  rw [tn_nI' (by omega)]
  refine Rn_loop (fun c => [some (.inl (nI n)), some (.inl (nI (tuA n c))), some (.inl (nI c))]) (fun _ => g) 4 (fun c hc => ?_) (Rn_ret ?_)
  · have hd := D_lt n c
    have ht := tuA_ok n hn c hc
    rw [blk_X4_turnedOf_4]
    simp (disch := omega) only [nI_leI, nI_ltI, nI_eq, tn_nI, tn_nI', inB_eq, decide_eq_true_eq, Bool.and_eq_true, decide_true, Bool.and_true, Bool.true_and, Bool.and_self, nI_add, pk_mul, fiv_eq, if_pos, if_neg, ↓reduceIte, b2i_0, and_self, and_true, true_and]
    by_cases h3 : D n c = 3
    · simp [tuA, h3]
    · by_cases h4 : D n c = 4
      · simp [tuA, h4, pk_sub (ht.1 h4)]
      · simp [tuA, h3, h4]
  · rw [blk_X4_turnedOf_4, if_pos (nI_le (by omega) (by decide))]
    rfl
theorem run_X4_covers (E : Ex) (g : Sg) (a0 a1 : Int32) (h : (inB a0 625 && inB a1 625) = true) : Rn (T_X4_covers E ev_X4_covers) K_X4_covers 0 [some (.inl a0), some (.inl a1)] [] g (some (.inl (b2i (cov (tn a0) (tn a1)))), g) := by
  rw [Bool.and_eq_true] at h
  obtain ⟨n, hn, rfl⟩ := (inB_iff (by decide)).mp h.1
  obtain ⟨k, hk, rfl⟩ := (inB_iff (by decide)).mp h.2
  refine Rn_go (blk_X4_covers_0 E g _ _) ?_
  rw [tn_nI' (by omega), tn_nI' (by omega)]
  have step : ∀ c, c < 4 → seg (T_X4_covers E ev_X4_covers) K_X4_covers 2000 2 [some (.inl (nI n)), some (.inl (nI k)), some (.inl (nI c))] [] g = if covD (D n c) (D k c) = true then some (.inr (2, [some (.inl (nI n)), some (.inl (nI k)), some (.inl (nI (c + 1)))], [], g)) else some (.inl (some (.inl (nI 0)), g)) := by
    intro c hc
    have hd := D_lt n c
    have hd' := D_lt k c
    rw [blk_X4_covers_2]
    unfold covD
    simp only [← nI_0]
    simp (disch := omega) only [nI_leI, nI_ltI, nI_eq, tn_nI, tn_nI', inB_eq, decide_eq_true_eq, Bool.and_eq_true, decide_true, Bool.and_true, Bool.true_and, Bool.and_self, nI_add, pk_mul, fiv_eq, if_pos, if_neg, ↓reduceIte, b2i_0, and_self, and_true, true_and]
    by_cases h2 : D n c = 2
    · simp [h2]
    · by_cases h0 : D n c = 0
      · simp [h0]
      · simp [h2, h0]
  refine Rn_loopE (fun c => covD (D n c) (D k c)) (fun c => [some (.inl (nI n)), some (.inl (nI k)), some (.inl (nI c))]) (fun _ => g) 4 (fun c hc hp => ?_) (fun c hc hp _ => Rn_ret ?_) (fun hp => Rn_ret ?_)
  · rw [step c hc, if_pos hp]
  · rw [step c hc, if_neg (by rw [hp]; decide), show cov n k = false from al_f hc hp]; rfl
  · rw [blk_X4_covers_2, if_pos (nI_le (by omega) (by decide)), show cov n k = true from al_iff.mpr hp]; rfl
theorem shr_bit {n c : Nat} (hn : n < 65536) (hc : c < 16) : (nI n >>> (nI c &&& nI 31)) &&& nI 1 = nI (n / 2 ^ c % 2) := by
  have e1 : ((nI c &&& nI 31).toBitVec.smod 32).toNat = c := by
    have : ∀ c, c < 16 → ((nI c &&& nI 31).toBitVec.smod 32).toNat = c := by decide +kernel
    exact this c hc
  have hd : n / 2 ^ c ≤ n := Nat.div_le_self _ _
  rw [pk_shrN (by omega) _ c e1, pk_andN (by omega) 1 (by decide)]
theorem run_X4_alikeLaw (E : Ex) (g : Sg) (a0 : Int32) (h : (inB a0 16) = true) : Rn (T_X4_alikeLaw E ev_X4_alikeLaw) K_X4_alikeLaw 0 [some (.inl a0)] [] g (some (.inl (nI (alk (tn a0)))), g) := by
  obtain ⟨n, hn, rfl⟩ := (inB_iff (by decide)).mp h
  refine Rn_go (blk_X4_alikeLaw_0 E g _) ?_
  rw [tn_nI' (by omega)]
  refine Rn_loop (fun c => [some (.inl (nI n)), some (.inl (nI (sm (fun c => if n / 2 ^ c % 2 = 1 then 5 ^ c else 0) c))), some (.inl (nI c))]) (fun _ => g) 4 (fun c hc => ?_) (Rn_ret ?_)
  · rw [blk_X4_alikeLaw_4, if_neg (nI_ge hc (by decide)), shr_bit (by omega) (by omega), inB_nI (show c < 5 by omega) (by decide), if_pos rfl, tn_nI (by omega), fiv_eq c (by omega), pk_mul]
    by_cases h1 : n / 2 ^ c % 2 = 1
    · rw [h1, if_pos rfl, nI_add, nI_add]
      simp [sm, h1]
    · rw [if_neg (by rw [nI_eq (by omega) (by decide)]; exact h1), nI_add]
      simp [sm, h1]
  · rw [blk_X4_alikeLaw_4, if_pos (nI_le (by omega) (by decide))]
    rfl
