/-! RUNS: the model's readings -/
theorem run_X5_isIn (E : Ex) (g : Sg) (a0 a1 a2 : Int32) (h : true = true) : Rn (T_X5_isIn E ev_X5_isIn) K_X5_isIn 0 [some (.inl a0), some (.inl a1), some (.inl a2)] [] g (some (.inl (b2i (isI a0 a1 a2))), g) := by
  refine Rn_ret ?_
  rw [blk_X5_isIn_0]
  unfold isI
  by_cases c1 : a0 < a1
  · simp [c1, Int32.not_le.mpr c1]; rfl
  by_cases c2 : a2 < a0
  · simp [c1, c2, Int32.not_le.mpr c2]; rfl
  · simp [c1, c2, Int32.not_lt.mp c1, Int32.not_lt.mp c2]; rfl
theorem run_X5_columns (E : Ex) (g : Sg) (h : true = true) : Rn (T_X5_columns E ev_X5_columns) K_X5_columns 0 [some (.inr (some 51))] [] g (some (.inl (g 52 128)), g) := Rn_ret (blk_X5_columns_0 E g)
theorem run_X5_get (E : Ex) (g : Sg) (a1 a2 : Int32) (h : (inB (nI 8 * a1 + a2) 133) = true) : Rn (T_X5_get E ev_X5_get) K_X5_get 0 [some (.inr (some 51)), some (.inl a1), some (.inl a2)] [] g (some (.inl (g 52 (nI 8 * a1 + a2).toNatClampNeg)), g) := by
  refine Rn_ret ?_
  rw [blk_X5_get_0, if_pos h]
theorem run_X5_set (E : Ex) (g : Sg) (a1 a2 a3 : Int32) (h : (inB (nI 8 * a1 + a2) 133) = true) : Rn (T_X5_set E ev_X5_set) K_X5_set 0 [some (.inr (some 51)), some (.inl a1), some (.inl a2), some (.inl a3)] [] g (none, us g 52 (upd (g 52) (nI 8 * a1 + a2).toNatClampNeg a3)) := by
  refine Rn_ret ?_
  rw [blk_X5_set_0, if_pos h]
theorem isI_inB (x : Int32) : isI x (nI 0) (nI 15) = inB x 16 := by
  unfold isI
  rcases pk_ix x (n := 16) (by decide) with q | q | ⟨j, h1, rfl⟩
  · rw [inB_lt (by decide) q]
    have : ¬ nI 0 ≤ x := Int32.not_le.mpr q
    simp [this]
  · rw [inB_ge (by decide) q]
    have : ¬ x ≤ nI 15 := by
      intro h
      exact absurd (Int32.le_trans q h) (by decide)
    simp [this]
  · simp (disch := omega) only [nI_leI, nI_ltI, nI_eq, tn_nI, tn_nI', inB_eq, decide_eq_true_eq, Bool.and_eq_true, decide_true, Bool.and_true, Bool.true_and, Bool.and_self, nI_add, pk_mul, fiv_eq, if_pos, if_neg, ↓reduceIte, b2i_0, and_self, and_true, true_and]
    have : j ≤ 15 := by omega
    simp [this, h1]
theorem run_X5_isRow (E : Ex) (g : Sg) (a1 : Int32) (h : true = true) : Rn (T_X5_isRow E ev_X5_isRow) K_X5_isRow 0 [some (.inr (some 51)), some (.inl a1)] [] g (some (.inl (b2i (inB a1 16 && rwM g (tn a1)))), g) := by
  refine Rn_ret ?_
  rw [blk_X5_isRow_0, isI_inB]
  cases hb : inB a1 16 with
  | false => rfl
  | true =>
    obtain ⟨s, hs, rfl⟩ := (inB_iff (by decide)).mp hb
    unfold rwM
    simp (disch := omega) only [nI_leI, nI_ltI, nI_eq, tn_nI, tn_nI', inB_eq, decide_eq_true_eq, Bool.and_eq_true, decide_true, Bool.and_true, Bool.true_and, Bool.and_self, nI_add, pk_mul, fiv_eq, if_pos, if_neg, ↓reduceIte, b2i_0, and_self, and_true, true_and]
    by_cases c1 : g 52 (8 * s) = 1
    · simp [c1, b2i]; rfl
    · have c2 : ¬ g 52 (8 * s) = nI 1 := c1
      simp [c1, c2, b2i]; rfl
theorem run_X5_isColumn (E : Ex) (g : Sg) (a1 : Int32) (h : true = true) : Rn (T_X5_isColumn E ev_X5_isColumn) K_X5_isColumn 0 [some (.inr (some 51)), some (.inl a1)] [] g (some (.inl (b2i (isI a1 0 (g 52 128 - 1)))), g) := by
  refine Rn_ret ?_
  rw [blk_X5_isColumn_0, if_pos (isB_b2i _)]
  rfl
theorem run_X5_isNumber (E : Ex) (g : Sg) (a0 a1 : Int32) (h : true = true) : Rn (T_X5_isNumber E ev_X5_isNumber) K_X5_isNumber 0 [some (.inl a0), some (.inl a1)] [] g (some (.inl (b2i (fitB a0 a1))), g) := by
  refine Rn_ret ?_
  rw [blk_X5_isNumber_0]
  unfold fitB isI
  have e1 : (nI 4) = (4 : Int32) := rfl
  have e2 : (nI 100) = (100 : Int32) := rfl
  have e3 : (nI 99) = (99 : Int32) := rfl
  rw [e1, e2, e3]
  cases (decide (-99 ≤ a1) && decide (a1 ≤ 99)) <;> by_cases c2 : a0 = 4 <;> by_cases c3 : a1 = 100 <;> simp [c2, c3, b2i] <;> rfl
theorem run_X5_step (E : Ex) (g : Sg) (a1 a2 a3 : Int32) (h : (inB a1 16 && inB a2 16 && inB a3 4) = true) : Rn (T_X5_step E ev_X5_step) K_X5_step 0 [some (.inr (some 51)), some (.inl a1), some (.inl a2), some (.inl a3)] [] g (some (.inl (nI (wd (nmM g (tn a1) (tn a3)) (nmM g (tn a2) (tn a3))))), g) := by
  rw [Bool.and_eq_true, Bool.and_eq_true] at h
  obtain ⟨s, hs, rfl⟩ := (inB_iff (by decide)).mp h.1.1
  obtain ⟨t, ht, rfl⟩ := (inB_iff (by decide)).mp h.1.2
  obtain ⟨c, hc, rfl⟩ := (inB_iff (by decide)).mp h.2
  refine Rn_ret ?_
  rw [blk_X5_step_0]
  simp (disch := omega) only [nI_leI, nI_ltI, nI_eq, tn_nI, tn_nI', inB_eq, decide_eq_true_eq, Bool.and_eq_true, decide_true, Bool.and_true, Bool.true_and, Bool.and_self, nI_add, pk_mul, fiv_eq, if_pos, if_neg, ↓reduceIte, b2i_0, and_self, and_true, true_and]
  unfold wd nmM
  have e1 : (nI 1000) = (1000 : Int32) := rfl
  rw [e1]
  generalize g 52 (8 * s + (4 + c)) = x
  generalize g 52 (8 * t + (4 + c)) = y
  by_cases c1 : x = 1000
  · simp [c1]
  by_cases c2 : y = 1000
  · simp [c1, c2]
  by_cases c3 : x = y
  · simp [c1, c2, c3]
  by_cases c4 : y ≤ x
  · simp [c1, c2, c3, c4, Int32.not_lt.mpr c4]
  · simp [c1, c2, c3, c4, Int32.not_le.mp c4]
theorem run_X5_place (E : Ex) (g : Sg) (a0 : Int32) (h : true = true) : Rn (T_X5_place E ev_X5_place) K_X5_place 0 [some (.inl a0)] [] g (some (.inl (plI a0)), g) := by
  refine Rn_ret ?_
  rw [blk_X5_place_0]
  unfold plI
  have e1 : (nI 1) = (1 : Int32) := rfl
  have e2 : (nI 2) = (2 : Int32) := rfl
  rw [e1, e2]
  by_cases c1 : a0 = 0
  · simp [c1] <;> rfl
  by_cases c2 : a0 = 1
  · simp [c1, c2]; rfl
  by_cases c3 : a0 = 2
  · simp [c1, c2, c3]; rfl
  · simp [c1, c2, c3]; rfl
theorem plI_eq : ∀ c, c < 4 → plI (nI c) = nI (5 ^ c) := by decide +kernel
theorem plI_ne (c : Int32) : ¬ plI c = 0 := by
  unfold plI
  split
  · decide
  split
  · decide
  split <;> decide
theorem run_X5_digit (E : Ex) (g : Sg) (a0 a1 : Int32) (h : (inB a0 625 && inB a1 4) = true) : Rn (T_X5_digit E ev_X5_digit) K_X5_digit 0 [some (.inl a0), some (.inl a1)] [] g (some (.inl (nI (D (tn a0) (tn a1)))), g) := by
  rw [Bool.and_eq_true] at h
  obtain ⟨n, hn, rfl⟩ := (inB_iff (by decide)).mp h.1
  obtain ⟨c, hc, rfl⟩ := (inB_iff (by decide)).mp h.2
  refine Rn_ret ?_
  rw [blk_X5_digit_0, if_neg (plI_ne _), plI_eq c hc, dig_eq hn (by omega), tn_nI' (by omega), tn_nI' (by omega)]
theorem run_X5_between0 (E : Ex) (g : Sg) (a1 a2 : Int32) (h : (inB a1 16 && inB a2 16 && inB (g 52 128) 5) = true) : Rn (T_X5_between0 E ev_X5_between0) K_X5_between0 0 [some (.inr (some 51)), some (.inl a1), some (.inl a2)] [] g (some (.inl (nI (btw (tn (g 52 128)) (nmM g) (tn a1) (tn a2)))), g) := by
  rw [Bool.and_eq_true, Bool.and_eq_true] at h
  obtain ⟨s, hs, rfl⟩ := (inB_iff (by decide)).mp h.1.1
  obtain ⟨t, ht, rfl⟩ := (inB_iff (by decide)).mp h.1.2
  obtain ⟨C, hC, e⟩ := (inB_iff (by decide)).mp h.2
  refine Rn_go (blk_X5_between0_0 E g _ _) ?_
  rw [e, tn_nI' (by omega), tn_nI' (by omega), tn_nI' (by omega)]
  refine Rn_loop (fun c => [some (.inr (some 51)), some (.inl (nI s)), some (.inl (nI t)), some (.inl (nI (btw c (nmM g) s t))), some (.inl (nI c))]) (fun _ => g) C (fun c hc => ?_) (Rn_ret ?_)
  · rw [blk_X5_between0_5, e]
    simp (disch := omega) only [nI_leI, nI_ltI, nI_eq, tn_nI, tn_nI', inB_eq, decide_eq_true_eq, Bool.and_eq_true, decide_true, Bool.and_true, Bool.true_and, Bool.and_self, nI_add, pk_mul, fiv_eq, if_pos, if_neg, ↓reduceIte, b2i_0, and_self, and_true, true_and, plI_eq]
    rfl
  · rw [blk_X5_between0_5, e, if_pos (nI_le (by omega) (by omega))]
theorem run_X5_most (E : Ex) (g : Sg) (h : (inB (g 52 128) 5) = true) : Rn (T_X5_most E ev_X5_most) K_X5_most 0 [some (.inr (some 51))] [] g (some (.inl (nI (5 ^ tn (g 52 128)))), g) := by
  obtain ⟨C, hC, e⟩ := (inB_iff (by decide)).mp h
  refine Rn_ret ?_
  rw [blk_X5_most_0, e, tn_nI' (by omega)]
  by_cases c : C = 4
  · subst c; rfl
  · rw [if_neg (by rw [nI_eq (by omega) (by decide)]; exact c), plI_eq C (by omega)]
theorem pow5_b {C : Nat} (h : C < 5) : 1 ≤ 5 ^ C ∧ 5 ^ C ≤ 625 := by
  rcases (show C = 0 ∨ C = 1 ∨ C = 2 ∨ C = 3 ∨ C = 4 by omega) with e | e | e | e | e <;> subst e <;> decide
theorem isI_law {C : Nat} (h : C < 5) (x : Int32) : isI x (nI 1) (nI (5 ^ C) - nI 1) = lawB C x := by
  have hp := pow5_b h
  unfold isI lawB
  rw [pk_sub hp.1]
  rcases pk_ix x (n := 5 ^ C) (by omega) with q | q | ⟨j, h1, rfl⟩
  · have a : ¬ nI 1 ≤ x := fun z => absurd (Int32.lt_of_le_of_lt z q) (by decide)
    have b : ¬ (0 : Int32) < x := fun z => absurd (Int32.lt_trans z q) (by decide)
    simp [a, b]
  · have a : ¬ x < nI (5 ^ C) := Int32.not_lt.mpr q
    have b : ¬ x ≤ nI (5 ^ C - 1) := fun z => absurd (Int32.le_trans q z) (nI_ge (by omega) (by omega))
    simp [a, b]
  · rw [← nI_0]
    simp (disch := omega) only [nI_leI, nI_ltI, nI_eq, tn_nI, tn_nI', inB_eq, decide_eq_true_eq, Bool.and_eq_true, decide_true, Bool.and_true, Bool.true_and, Bool.and_self, nI_add, pk_mul, fiv_eq, if_pos, if_neg, ↓reduceIte, b2i_0, and_self, and_true, true_and]
    have : j ≤ 5 ^ C - 1 := by omega
    by_cases c : 1 ≤ j
    · have c' : 0 < j := c
      simp [this, h1, c', c]
    · have c' : ¬ 0 < j := by omega
      simp [c', c]
theorem run_X5_isLaw (E : Ex) (g : Sg) (a1 : Int32) (h : (inB (g 52 128) 5) = true) : Rn (T_X5_isLaw E ev_X5_isLaw) K_X5_isLaw 0 [some (.inr (some 51)), some (.inl a1)] [] g (some (.inl (b2i (lawB (tn (g 52 128)) a1))), g) := by
  obtain ⟨C, hC, e⟩ := (inB_iff (by decide)).mp h
  refine Rn_ret ?_
  rw [blk_X5_isLaw_0, if_pos h, if_pos (isB_b2i _), e, tn_nI' (by omega), isI_law hC]
theorem run_X5_turned (E : Ex) (g : Sg) (a1 : Int32) (h : (inB a1 625) = true) : Rn (T_X5_turned E ev_X5_turned) K_X5_turned 0 [some (.inr (some 51)), some (.inl a1)] [] g (some (.inl (nI (tun (tn a1)))), g) := by
  obtain ⟨n, hn, rfl⟩ := (inB_iff (by decide)).mp h
  refine Rn_go (blk_X5_turned_0 E g _) ?_
  rw [tn_nI' (by omega), ← tun_M n hn]
  refine Rn_loop (fun c => [some (.inr (some 51)), some (.inl (nI n)), some (.inl (nI (sm (fun c => 5 ^ c * sw (D n c)) c))), some (.inl (nI c))]) (fun _ => g) 4 (fun c hc => ?_) (Rn_ret ?_)
  · have hd := D_lt n c
    rw [blk_X5_turned_4]
    simp (disch := omega) only [nI_leI, nI_ltI, nI_eq, tn_nI, tn_nI', inB_eq, decide_eq_true_eq, Bool.and_eq_true, decide_true, Bool.and_true, Bool.true_and, Bool.and_self, nI_add, pk_mul, fiv_eq, if_pos, if_neg, ↓reduceIte, b2i_0, and_self, and_true, true_and, plI_eq]
    by_cases h3 : D n c = 3
    · simp [sm, h3, sw]
    · by_cases h4 : D n c = 4
      · simp [sm, h4, sw]
      · simp [sm, h3, h4, sw]
  · rw [blk_X5_turned_4, if_pos (nI_le (by omega) (by decide))]
    rfl
theorem run_X5_least0 (E : Ex) (g : Sg) (a1 : Int32) (h : (inB a1 625) = true) : Rn (T_X5_least0 E ev_X5_least0) K_X5_least0 0 [some (.inr (some 51)), some (.inl a1)] [] g (some (.inl (nI (min (tn a1) (tun (tn a1))))), g) := by
  obtain ⟨n, hn, rfl⟩ := (inB_iff (by decide)).mp h
  have ht := tun_lt n hn
  refine Rn_ret ?_
  rw [blk_X5_least0_0, if_pos h, if_pos h]
  simp (disch := omega) only [nI_leI, nI_ltI, nI_eq, tn_nI, tn_nI', inB_eq, decide_eq_true_eq, Bool.and_eq_true, decide_true, Bool.and_true, Bool.true_and, Bool.and_self, nI_add, pk_mul, fiv_eq, if_pos, if_neg, ↓reduceIte, b2i_0, and_self, and_true, true_and]
  by_cases c : tun n ≤ n
  · rw [if_pos c, Nat.min_eq_right c]
  · rw [if_neg c, Nat.min_eq_left (by omega)]
theorem run_X5_isSo (E : Ex) (g : Sg) (a1 a2 a3 : Int32) (h : (inB a1 625 && inB a2 16 && inB a3 16 && inB (g 52 128) 5) = true) : Rn (T_X5_isSo E ev_X5_isSo) K_X5_isSo 0 [some (.inr (some 51)), some (.inl a1), some (.inl a2), some (.inl a3)] [] g (some (.inl (b2i (soB (tn (g 52 128)) (nmM g) (tn a1) (tn a2) (tn a3)))), g) := by
  rw [Bool.and_eq_true, Bool.and_eq_true, Bool.and_eq_true] at h
  obtain ⟨n, hn, rfl⟩ := (inB_iff (by decide)).mp h.1.1.1
  obtain ⟨s, hs, rfl⟩ := (inB_iff (by decide)).mp h.1.1.2
  obtain ⟨t, ht, rfl⟩ := (inB_iff (by decide)).mp h.1.2
  obtain ⟨C, hC, e⟩ := (inB_iff (by decide)).mp h.2
  refine Rn_go (blk_X5_isSo_0 E g _ _ _) ?_
  rw [e, tn_nI' (by omega), tn_nI' (by omega), tn_nI' (by omega), tn_nI' (by omega)]
  have step : ∀ c, c < C → seg (T_X5_isSo E ev_X5_isSo) K_X5_isSo 2000 3 [some (.inr (some 51)), some (.inl (nI n)), some (.inl (nI s)), some (.inl (nI t)), some (.inl (nI c))] [] g = if soD (D n c) (wd (nmM g s c) (nmM g t c)) = true then some (.inr (3, [some (.inr (some 51)), some (.inl (nI n)), some (.inl (nI s)), some (.inl (nI t)), some (.inl (nI (c + 1)))], [], g)) else some (.inl (some (.inl (nI 0)), g)) := by
    intro c hc
    have hd := D_lt n c
    have hw := wd_b (nmM g s c) (nmM g t c)
    rw [blk_X5_isSo_3, e]
    unfold soD
    simp only [← nI_0]
    simp (disch := omega) only [nI_leI, nI_ltI, nI_eq, tn_nI, tn_nI', inB_eq, decide_eq_true_eq, Bool.and_eq_true, decide_true, Bool.and_true, Bool.true_and, Bool.and_self, nI_add, pk_mul, fiv_eq, if_pos, if_neg, ↓reduceIte, b2i_0, and_self, and_true, true_and]
    by_cases h2 : D n c = 2
    · simp [h2]
    · by_cases h0 : D n c = 0
      · simp [h0]
      · simp [h2, h0]
  refine Rn_loopE (fun c => soD (D n c) (wd (nmM g s c) (nmM g t c))) (fun c => [some (.inr (some 51)), some (.inl (nI n)), some (.inl (nI s)), some (.inl (nI t)), some (.inl (nI c))]) (fun _ => g) C (fun c hc hp => ?_) (fun c hc hp _ => Rn_ret ?_) (fun hp => Rn_ret ?_)
  · rw [step c hc, if_pos hp]
  · rw [step c hc, if_neg (by rw [hp]; decide), show soB C (nmM g) n s t = false from al_f hc hp]; rfl
  · rw [blk_X5_isSo_3, e, if_pos (nI_le (by omega) (by omega)), show soB C (nmM g) n s t = true from al_iff.mpr hp]; rfl
theorem run_X5_breaks (E : Ex) (g : Sg) (a1 a2 a3 : Int32) (h : (inB a1 625 && inB a2 16 && inB a3 16 && inB (g 52 128) 5) = true) : Rn (T_X5_breaks E ev_X5_breaks) K_X5_breaks 0 [some (.inr (some 51)), some (.inl a1), some (.inl a2), some (.inl a3)] [] g (some (.inl (b2i (brB (tn (g 52 128)) (rwM g) (nmM g) (tn a1) (tn a2) (tn a3)))), g) := by
  rw [Bool.and_eq_true, Bool.and_eq_true, Bool.and_eq_true] at h
  obtain ⟨⟨⟨h1, h2⟩, h3⟩, h4⟩ := h
  refine Rn_ret ?_
  rw [blk_X5_breaks_0]
  unfold brB
  simp only [h1, h2, h3, h4, Bool.and_self, Bool.true_and, if_true]
  cases rwM g (tn a2) <;> cases rwM g (tn a3) <;> cases soB (tn (g 52 128)) (nmM g) (tn a1) (tn a2) (tn a3) <;> cases soB (tn (g 52 128)) (nmM g) (tn a1) (tn a3) (tn a2) <;> simp [b2i] <;> rfl
theorem run_X5_broken0 (E : Ex) (g : Sg) (a1 : Int32) (h : (inB a1 625 && inB (g 52 128) 5) = true) : Rn (T_X5_broken0 E ev_X5_broken0) K_X5_broken0 0 [some (.inr (some 51)), some (.inl a1)] [] g (some (.inl (nI (brN (tn (g 52 128)) (rwM g) (nmM g) (tn a1)))), g) := by
  rw [Bool.and_eq_true] at h
  obtain ⟨n, hn, rfl⟩ := (inB_iff (by decide)).mp h.1
  obtain ⟨C, hC, e⟩ := (inB_iff (by decide)).mp h.2
  refine Rn_go (blk_X5_broken0_0 E g _) ?_
  rw [e, tn_nI' (by omega), tn_nI' (by omega)]
  have inner : ∀ s, s < 16 → ∀ (k : Nat) (o : Option AV × Sg), Rn (T_X5_broken0 E ev_X5_broken0) K_X5_broken0 4 [some (.inr (some 51)), some (.inl (nI n)), some (.inl (nI (k + sm (fun i => ct1 (brB C (rwM g) (nmM g) n s (s + 1 + i))) (15 - s)))), some (.inl (nI (s + 1)))] [] g o → Rn (T_X5_broken0 E ev_X5_broken0) K_X5_broken0 4 [some (.inr (some 51)), some (.inl (nI n)), some (.inl (nI k)), some (.inl (nI s))] [] g o := by
    intro s hs k o hk
    refine Rn_go (by rw [blk_X5_broken0_4, if_neg (nI_ge hs (by decide)), nI_add]) ?_
    refine Rn_loop (fun i => [some (.inr (some 51)), some (.inl (nI n)), some (.inl (nI (k + sm (fun i => ct1 (brB C (rwM g) (nmM g) n s (s + 1 + i))) i))), some (.inl (nI s)), some (.inl (nI (s + 1 + i)))]) (fun _ => g) (15 - s) (fun i hi => ?_) (Rn_go (pc' := 4) ?_ hk)
    · rw [blk_X5_broken0_15, e]
      simp (disch := omega) only [nI_leI, nI_ltI, nI_eq, tn_nI, tn_nI', inB_eq, decide_eq_true_eq, Bool.and_eq_true, decide_true, Bool.and_true, Bool.true_and, Bool.and_self, nI_add, pk_mul, fiv_eq, if_pos, if_neg, ↓reduceIte, b2i_0, and_self, and_true, true_and]
      simp only [sm]
      cases hb : brB C (rwM g) (nmM g) n s (s + 1 + i) <;> simp [ct1_t, ct1_f, Nat.add_assoc]
    · rw [blk_X5_broken0_15, if_pos (nI_le (by omega) (by omega)), nI_add]
  have hx : ∀ k, k ≤ 16 → Rn (T_X5_broken0 E ev_X5_broken0) K_X5_broken0 4 [some (.inr (some 51)), some (.inl (nI n)), some (.inl (nI (sm (fun s => sm (fun i => ct1 (brB C (rwM g) (nmM g) n s (s + 1 + i))) (15 - s)) (16 - k)))), some (.inl (nI (16 - k)))] [] g (some (.inl (nI (brN C (rwM g) (nmM g) n))), g) := by
    intro k
    induction k with
    | zero =>
      intro _
      refine Rn_ret ?_
      rw [blk_X5_broken0_4, if_pos (nI_le (by omega) (by decide))]
      rfl
    | succ k ih =>
      intro hk
      refine inner (16 - (k + 1)) (by omega) _ _ ?_
      have := ih (by omega)
      rw [show 16 - k = 16 - (k + 1) + 1 by omega] at this
      exact this
  exact hx 16 (Nat.le_refl _)
theorem run_X5_saysAll (E : Ex) (g : Sg) (a0 a1 : Int32) (h : (inB a0 625 && inB a1 625) = true) : Rn (T_X5_saysAll E ev_X5_saysAll) K_X5_saysAll 0 [some (.inl a0), some (.inl a1)] [] g (some (.inl (b2i (saB (tn a0) (tn a1)))), g) := by
  rw [Bool.and_eq_true] at h
  obtain ⟨n, hn, rfl⟩ := (inB_iff (by decide)).mp h.1
  obtain ⟨k, hk, rfl⟩ := (inB_iff (by decide)).mp h.2
  refine Rn_go (blk_X5_saysAll_0 E g _ _) ?_
  rw [tn_nI' (by omega), tn_nI' (by omega)]
  have step : ∀ c, c < 4 → seg (T_X5_saysAll E ev_X5_saysAll) K_X5_saysAll 2000 2 [some (.inl (nI n)), some (.inl (nI k)), some (.inl (nI c))] [] g = if saD (D n c) (D k c) = true then some (.inr (2, [some (.inl (nI n)), some (.inl (nI k)), some (.inl (nI (c + 1)))], [], g)) else some (.inl (some (.inl (nI 0)), g)) := by
    intro c hc
    have hd := D_lt n c
    have hd' := D_lt k c
    rw [blk_X5_saysAll_2]
    unfold saD
    simp only [← nI_0]
    simp (disch := omega) only [nI_leI, nI_ltI, nI_eq, tn_nI, tn_nI', inB_eq, decide_eq_true_eq, Bool.and_eq_true, decide_true, Bool.and_true, Bool.true_and, Bool.and_self, nI_add, pk_mul, fiv_eq, if_pos, if_neg, ↓reduceIte, b2i_0, and_self, and_true, true_and]
    by_cases h0 : D k c = 0
    · simp [h0]
    · by_cases h1 : D n c = D k c
      · simp [h1]
      · by_cases h2 : D k c = 2
        · by_cases h3 : D n c ≤ 2
          · have h3' : ¬ 2 < D n c := by omega
            simp [h0, h1, h2, h3, h3'] <;> omega
          · have h3' : 2 < D n c := by omega
            simp [h2, h3, h3']
        · simp [h0, h1, h2]
  refine Rn_loopE (fun c => saD (D n c) (D k c)) (fun c => [some (.inl (nI n)), some (.inl (nI k)), some (.inl (nI c))]) (fun _ => g) 4 (fun c hc hp => ?_) (fun c hc hp _ => Rn_ret ?_) (fun hp => Rn_ret ?_)
  · rw [step c hc, if_pos hp]
  · rw [step c hc, if_neg (by rw [hp]; decide), show saB n k = false from al_f hc hp]; rfl
  · rw [blk_X5_saysAll_2, if_pos (nI_le (by omega) (by decide)), show saB n k = true from al_iff.mpr hp]; rfl
theorem run_X5_isSaid (E : Ex) (g : Sg) (a1 a2 : Int32) (h : (inB a1 625 && inB a2 625) = true) : Rn (T_X5_isSaid E ev_X5_isSaid) K_X5_isSaid 0 [some (.inr (some 51)), some (.inl a1), some (.inl a2)] [] g (some (.inl (b2i (isd (tn a1) (tn a2)))), g) := by
  rw [Bool.and_eq_true] at h
  obtain ⟨n, hn, rfl⟩ := (inB_iff (by decide)).mp h.1
  obtain ⟨k, hk, rfl⟩ := (inB_iff (by decide)).mp h.2
  have ht := tun_lt k hk
  refine Rn_ret ?_
  rw [blk_X5_isSaid_0]
  unfold isd
  simp (disch := omega) only [nI_leI, nI_ltI, nI_eq, tn_nI, tn_nI', inB_eq, decide_eq_true_eq, Bool.and_eq_true, decide_true, Bool.and_true, Bool.true_and, Bool.and_self, nI_add, pk_mul, fiv_eq, if_pos, if_neg, ↓reduceIte, b2i_0, and_self, and_true, true_and]
  cases saB n k <;> cases saB n (tun k) <;> simp [b2i] <;> rfl
theorem run_X5_size (E : Ex) (g : Sg) (a0 : Int32) (h : (inB a0 625) = true) : Rn (T_X5_size E ev_X5_size) K_X5_size 0 [some (.inl a0)] [] g (some (.inl (nI (cols (tn a0)))), g) := by
  obtain ⟨n, hn, rfl⟩ := (inB_iff (by decide)).mp h
  refine Rn_go (blk_X5_size_0 E g _) ?_
  rw [tn_nI' (by omega)]
  refine Rn_loop (fun c => [some (.inl (nI n)), some (.inl (nI (sm (fun c => ct1 (!decide (D n c = 0))) c))), some (.inl (nI c))]) (fun _ => g) 4 (fun c hc => ?_) (Rn_ret ?_)
  · have hd := D_lt n c
    rw [blk_X5_size_4]
    simp only [← nI_0]
    simp (disch := omega) only [nI_leI, nI_ltI, nI_eq, tn_nI, tn_nI', inB_eq, decide_eq_true_eq, Bool.and_eq_true, decide_true, Bool.and_true, Bool.true_and, Bool.and_self, nI_add, pk_mul, fiv_eq, if_pos, if_neg, ↓reduceIte, b2i_0, and_self, and_true, true_and]
    by_cases h0 : D n c = 0 <;> simp [sm, h0, ct1]
  · rw [blk_X5_size_4, if_pos (nI_le (by omega) (by decide))]
    rfl
