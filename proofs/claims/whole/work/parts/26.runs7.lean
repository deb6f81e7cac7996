/-! RUNS: the class's searches -/
theorem b2i_n0 {p : Bool} : b2i p = nI 0 ↔ p = false := b2i_0
section FIN
variable {T : List (Nat × Stq)} {K : List (Nat × Nat)} {pc : Nat} {o : Option AV × Sg}
theorem Rn_fin (P : Nat → Bool) (L : Nat → Nat → Lc) (g : Sg) (hi A : Nat) (r : Nat ⊕ Nat)
    (h0 : ∀ t a, t < hi → a ≤ A → P t = false → seg T K 2000 pc (L t a) [] g = some (.inr (pc, L (t + 1) a, [], g)))
    (h1 : ∀ t a, t < hi → a + 1 ≤ A → P t = true → seg T K 2000 pc (L t (a + 1)) [] g = some (.inr (pc, L (t + 1) a, [], g)))
    (hx : ∀ t, t < hi → P t = true → r = .inl t → Rn T K pc (L t 0) [] g o)
    (he : ∀ a, a ≤ A → r = .inr a → Rn T K pc (L hi a) [] g o) : ∀ (n t a : Nat), t + n = hi → a ≤ A → fin P n t a = r → Rn T K pc (L t a) [] g o
  | 0, t, a, ht, ha, hr => by
    have : t = hi := by omega
    subst this
    exact he a ha hr.symm
  | n + 1, t, a, ht, ha, hr => by
    unfold fin at hr
    cases hp : P t with
    | false =>
      rw [hp, if_neg (by decide)] at hr
      exact Rn_go (h0 t a (by omega) ha hp) (Rn_fin P L g hi A r h0 h1 hx he n (t + 1) a (by omega) ha hr)
    | true =>
      rw [hp, if_pos rfl] at hr
      cases a with
      | zero =>
        rw [if_pos rfl] at hr
        exact hx t (by omega) hp hr.symm
      | succ a =>
        rw [if_neg (by omega)] at hr
        exact Rn_go (h1 t a (by omega) ha hp) (Rn_fin P L g hi A r h0 h1 hx he n (t + 1) a (by omega) (by omega) hr)
end FIN
theorem recG_far (g : Sg) (k : Nat) (h1 : ¬ k = 46) (h2 : ¬ k = 47) : recG g k = g k := by
  unfold recG
  rw [us_n _ h2, us_n _ h1]
theorem cntC_far (g : Sg) (k : Nat) (h0 : ¬ k = 0) (h1 : ¬ k = 46) (h2 : ¬ k = 47) : cntC g k = g k := by
  unfold cntC
  split
  · rw [us_n _ h0, recG_far g k h1 h2]
  · rfl
theorem pred_nI (a : Nat) : nI (a + 1) + (-1) = nI a := pk_m1 a
theorem ge0_nI {x : Int32} (h : 0 ≤ x) : ∃ j : Nat, j < 2 ^ 31 ∧ x = nI j := nI_of (Int32.not_lt.mpr h)
theorem run_X4_breaker (E : Ex) (g : Sg) (a1 a2 a3 : Int32) (h : (gC g) = true) : Rn (T_X4_breaker E ev_X4_breaker) K_X4_breaker 0 [some (.inr (some 0)), some (.inl a1), some (.inl a2), some (.inl a3)] [] g (some (.inl (if bkB (tn (g 1 0)) a1 a2 a3 = true then pickV a3 (fou (fun s t => pbC g s t (tn a1)) 16 0 (tn a2)) else -1)), g) := by
  have hC : inB (g 1 0) 5 = true := h
  obtain ⟨C, hC5, e⟩ := (inB_iff (by decide)).mp hC
  have e1 : nI 1 = (1 : Int32) := rfl
  unfold bkB
  cases hl : lawB (tn (g 1 0)) a1 with
  | false =>
    refine Rn_ret ?_
    rw [blk_X4_breaker_0, if_pos hC, hl]; rfl
  | true =>
  by_cases k0 : a2 < 0
  · refine Rn_ret ?_
    rw [blk_X4_breaker_0, if_pos hC, hl]
    simp [k0, Int32.not_le.mpr k0, b2i]
  have k0' : 0 ≤ a2 := Int32.not_lt.mp k0
  cases hw : isI a3 0 1 with
  | false =>
    refine Rn_ret ?_
    rw [blk_X4_breaker_0, if_pos hC, hl, e1]
    by_cases c1 : a3 < 0
    · simp [k0, c1, b2i]
    · have c2 : ¬ a3 ≤ 1 := fun c2 => by rw [isI_c.mpr ⟨c1, c2⟩] at hw; cases hw
      simp [k0, c1, c2, b2i]
  | true =>
  obtain ⟨c1, c2⟩ := isI_c.mp hw
  obtain ⟨k, hk, rfl⟩ := ge0_nI k0'
  have hl' := hl
  rw [e, tn_nI' (by omega)] at hl'
  obtain ⟨n, -, -, hn, rfl⟩ := law_nI hC5 hl'
  refine Rn_go (pc' := 29) (by rw [blk_X4_breaker_0, if_pos hC, hl, e1]; simp only [k0, c1, c2, b2i, if_true, if_false]; rfl) ?_
  simp only [k0', decide_true, Bool.and_self, if_true]
  rw [tn_nI' (by omega), tn_nI' (by omega)]
  have outer : ∀ (j s a : Nat), s + j = 16 → a ≤ k → Rn (T_X4_breaker E ev_X4_breaker) K_X4_breaker 29 [some (.inr (some 0)), some (.inl (nI n)), some (.inl (nI k)), some (.inl a3), some (.inl (nI a)), some (.inl (nI s))] [] g (some (.inl (pickV a3 (fou (fun s t => pbC g s t n) j s a))), g) := by
    intro j
    induction j with
    | zero =>
      intro s a hs ha
      refine Rn_ret ?_
      rw [blk_X4_breaker_29, if_pos (nI_le (by omega) (by omega))]
      rfl
    | succ j ih =>
      intro s a hs ha
      refine Rn_go (by rw [blk_X4_breaker_29, if_neg (nI_ge (by omega) (by decide)), nI_add]) ?_
      have step : ∀ t b, t < 16 → b ≤ k → seg (T_X4_breaker E ev_X4_breaker) K_X4_breaker 2000 42 [some (.inr (some 0)), some (.inl (nI n)), some (.inl (nI k)), some (.inl a3), some (.inl (nI b)), some (.inl (nI s)), some (.inl (nI t))] [] g = if pbC g s t n = true then (if b = 0 then some (.inl (some (.inl (if a3 = 0 then nI s else nI t)), g)) else some (.inr (42, [some (.inr (some 0)), some (.inl (nI n)), some (.inl (nI k)), some (.inl a3), some (.inl (nI b + (-1))), some (.inl (nI s)), some (.inl (nI (t + 1)))], [], g))) else some (.inr (42, [some (.inr (some 0)), some (.inl (nI n)), some (.inl (nI k)), some (.inl a3), some (.inl (nI b)), some (.inl (nI s)), some (.inl (nI (t + 1)))], [], g)) := by
        intro t b ht hb
        rw [blk_X4_breaker_42, hC]
        simp only [← nI_0]
        simp (disch := omega) only [nI_leI, nI_ltI, nI_eq, tn_nI, tn_nI', inB_eq, decide_eq_true_eq, Bool.and_eq_true, decide_true, Bool.and_true, Bool.true_and, Bool.and_self, nI_add, pk_mul, fiv_eq, if_pos, if_neg, ↓reduceIte, b2i_0, and_self, and_true, true_and, b2i_n0]
        by_cases w0 : a3 = nI 0
        · cases pbC g s t n <;> simp [w0]
        · cases pbC g s t n <;> simp [w0]
      generalize hr : fin (fun t => pbC g s t n) (15 - s) (s + 1) a = r
      refine Rn_fin (fun t => pbC g s t n) (fun t b => [some (.inr (some 0)), some (.inl (nI n)), some (.inl (nI k)), some (.inl a3), some (.inl (nI b)), some (.inl (nI s)), some (.inl (nI t))]) g 16 k r ?_ ?_ ?_ ?_ (15 - s) (s + 1) a (by omega) ha hr
      · intro t b ht hb hp
        rw [step t b ht hb, if_neg (by rw [hp]; decide)]
      · intro t b ht hb hp
        rw [step t (b + 1) ht hb, if_pos hp, if_neg (by omega), pred_nI]
      · intro t ht hp hrt
        refine Rn_ret ?_
        rw [step t 0 ht (by omega), if_pos hp, if_pos rfl]
        unfold fou
        rw [hr, hrt]
        rfl
      · intro b hb hrb
        refine Rn_go (by rw [blk_X4_breaker_42, if_pos (nI_le (by omega) (by decide)), nI_add]) ?_
        have := ih (s + 1) b (by omega) hb
        unfold fou
        rw [hr, hrb]
        exact this
  exact outer 16 0 k (by omega) (Nat.le_refl _)
theorem csB_and {b m : Int32} : (isI b 0 120 && isI m 1 4) = csB b m := rfl
theorem run_X4_laws (E : Ex) (g : Sg) (a1 a2 : Int32) (h : (gC g) = true) : Rn (T_X4_laws E ev_X4_laws) K_X4_laws 0 [some (.inr (some 0)), some (.inl a1), some (.inl a2)] [] g (some (.inl (if csB a1 a2 = true then nI (sm (fun i => ct1 (fnd (cntC g 47) (1 + i) a1 a2)) (5 ^ tn (g 1 0) - 1)) else -1)), (if csB a1 a2 = true then cntC g else g)) := by
  have hC : inB (g 1 0) 5 = true := h
  obtain ⟨C, hC5, e⟩ := (inB_iff (by decide)).mp hC
  have hp := pow5_b hC5
  cases hs : csB a1 a2 with
  | false =>
    refine Rn_ret ?_
    rw [blk_X4_laws_0, csB_and, hs]; rfl
  | true =>
  refine Rn_go (by rw [blk_X4_laws_0, csB_and, hs, h]; rfl) ?_
  rw [if_pos rfl, if_pos rfl, e, tn_nI' (by omega)]
  have e' : cntC g 1 0 = nI C := by rw [cntC_far g 1 (by decide) (by decide) (by decide), e]
  refine Rn_loop (fun i => [some (.inr (some 0)), some (.inl a1), some (.inl a2), some (.inl (nI (sm (fun i => ct1 (fnd (cntC g 47) (1 + i) a1 a2)) i))), some (.inl (nI (1 + i)))]) (fun _ => cntC g) (5 ^ C - 1) (fun i hi => ?_) (Rn_ret ?_)
  · rw [blk_X4_laws_19, e']
    simp (disch := omega) only [nI_leI, nI_ltI, nI_eq, tn_nI, tn_nI', inB_eq, decide_eq_true_eq, Bool.and_eq_true, decide_true, Bool.and_true, Bool.true_and, Bool.and_self, nI_add, pk_mul, fiv_eq, if_pos, if_neg, ↓reduceIte, b2i_0, and_self, and_true, true_and]
    simp only [sm]
    cases fnd (cntC g 47) (1 + i) a1 a2 <;> simp [ct1_t, ct1_f, Nat.add_assoc]
  · rw [blk_X4_laws_19, e']
    simp (disch := omega) only [nI_leI, nI_ltI, nI_eq, tn_nI, tn_nI', inB_eq, decide_eq_true_eq, Bool.and_eq_true, decide_true, Bool.and_true, Bool.true_and, Bool.and_self, nI_add, pk_mul, fiv_eq, if_pos, if_neg, ↓reduceIte, b2i_0, and_self, and_true, true_and]
theorem run_X4_law (E : Ex) (g : Sg) (a1 a2 a3 : Int32) (h : (gC g) = true) : Rn (T_X4_law E ev_X4_law) K_X4_law 0 [some (.inr (some 0)), some (.inl a1), some (.inl a2), some (.inl a3)] [] g (some (.inl (if (csB a1 a2 && decide (0 ≤ a3)) = true then finV (fin (fun n => fnd (cntC g 47) n a1 a2) (5 ^ tn (g 1 0) - 1) 1 (tn a3)) else -1)), (if (csB a1 a2 && decide (0 ≤ a3)) = true then cntC g else g)) := by
  have hC : inB (g 1 0) 5 = true := h
  obtain ⟨C, hC5, e⟩ := (inB_iff (by decide)).mp hC
  have hp := pow5_b hC5
  cases hs : csB a1 a2 with
  | false =>
    refine Rn_ret ?_
    rw [blk_X4_law_0, csB_and, hs]; rfl
  | true =>
  by_cases k0 : 0 ≤ a3
  · obtain ⟨k, hk, rfl⟩ := ge0_nI k0
    refine Rn_go (by rw [blk_X4_law_0, csB_and, hs, h, if_pos k0]; rfl) ?_
    simp only [k0, decide_true, Bool.and_self, if_true]
    rw [e, tn_nI' (by omega), tn_nI' (by omega)]
    have e' : cntC g 1 0 = nI C := by rw [cntC_far g 1 (by decide) (by decide) (by decide), e]
    have step : ∀ t b, t < 5 ^ C → b ≤ k → seg (T_X4_law E ev_X4_law) K_X4_law 2000 24 [some (.inr (some 0)), some (.inl a1), some (.inl a2), some (.inl (nI k)), some (.inl (nI b)), some (.inl (nI t))] [] (cntC g) = if fnd (cntC g 47) t a1 a2 = true then (if b = 0 then some (.inl (some (.inl (nI t)), cntC g)) else some (.inr (24, [some (.inr (some 0)), some (.inl a1), some (.inl a2), some (.inl (nI k)), some (.inl (nI b + (-1))), some (.inl (nI (t + 1)))], [], cntC g))) else some (.inr (24, [some (.inr (some 0)), some (.inl a1), some (.inl a2), some (.inl (nI k)), some (.inl (nI b)), some (.inl (nI (t + 1)))], [], cntC g)) := by
      intro t b ht hb
      rw [blk_X4_law_24, e']
      simp only [← nI_0]
      simp (disch := omega) only [nI_leI, nI_ltI, nI_eq, tn_nI, tn_nI', inB_eq, decide_eq_true_eq, Bool.and_eq_true, decide_true, Bool.and_true, Bool.true_and, Bool.and_self, nI_add, pk_mul, fiv_eq, if_pos, if_neg, ↓reduceIte, b2i_0, and_self, and_true, true_and, b2i_n0]
      cases fnd (cntC g 47) t a1 a2 <;> simp
    generalize hr : fin (fun n => fnd (cntC g 47) n a1 a2) (5 ^ C - 1) 1 k = r
    refine Rn_fin (fun n => fnd (cntC g 47) n a1 a2) (fun t b => [some (.inr (some 0)), some (.inl a1), some (.inl a2), some (.inl (nI k)), some (.inl (nI b)), some (.inl (nI t))]) (cntC g) (5 ^ C) k r ?_ ?_ ?_ ?_ (5 ^ C - 1) 1 k (by omega) (Nat.le_refl _) hr
    · intro t b ht hb hp
      rw [step t b ht hb, if_neg (by rw [hp]; decide)]
    · intro t b ht hb hp
      rw [step t (b + 1) ht hb, if_pos hp, if_neg (by omega), pred_nI]
    · intro t ht hp hrt
      refine Rn_ret ?_
      rw [step t 0 ht (by omega), if_pos hp, if_pos rfl, hrt]
      rfl
    · intro b hb hrb
      refine Rn_ret ?_
      rw [blk_X4_law_24, e', hrb]
      simp (disch := omega) only [nI_leI, nI_ltI, nI_eq, tn_nI, tn_nI', inB_eq, decide_eq_true_eq, Bool.and_eq_true, decide_true, Bool.and_true, Bool.true_and, Bool.and_self, nI_add, pk_mul, fiv_eq, if_pos, if_neg, ↓reduceIte, b2i_0, and_self, and_true, true_and]
      rfl
  · refine Rn_ret ?_
    rw [blk_X4_law_0, csB_and, hs, if_neg k0]
    simp [k0, b2i]
theorem pow2_b {C : Nat} (h : C < 5) : 1 ≤ 2 ^ C ∧ 2 ^ C ≤ 16 := by
  rcases (show C = 0 ∨ C = 1 ∨ C = 2 ∨ C = 3 ∨ C = 4 by omega) with e | e | e | e | e <;> subst e <;> decide
theorem nI_or (a b : Nat) : nI a ||| nI b = nI (a ||| b) := by
  apply Int32.toBitVec_inj.mp
  show BitVec.ofNat 32 a ||| BitVec.ofNat 32 b = BitVec.ofNat 32 (a ||| b)
  exact (BitVec.ofNat_or).symm
theorem alk_bit : ∀ C, C < 5 → ∀ n, n < 2 ^ C → ∀ c, c < C → n / 2 ^ c % 2 = 0 → alk n + 2 * 5 ^ c < 625 := by decide +kernel
theorem run_X4_settles (E : Ex) (g : Sg) (a1 : Int32) (h : (gC g) = true) : Rn (T_X4_settles E ev_X4_settles) K_X4_settles 0 [some (.inr (some 0)), some (.inl a1)] [] g (some (.inl (if inB a1 (2 ^ tn (g 1 0)) = true then nI (sett (cntC g 47) (tn a1) (tn (g 1 0))) else -1)), (if inB a1 (2 ^ tn (g 1 0)) = true then cntC g else g)) := by
  have hC : inB (g 1 0) 5 = true := h
  obtain ⟨C, hC5, e⟩ := (inB_iff (by decide)).mp hC
  have hp := pow2_b hC5
  rw [e, tn_nI' (by omega)]
  have hb0 := blk_X4_settles_0 E g a1
  rw [e, shl1 C (by omega), h, if_pos rfl] at hb0
  rcases pk_ix a1 (n := 2 ^ C) (by omega) with q | q | ⟨n, hn, rfl⟩
  · rw [inB_lt (by omega) q]
    refine Rn_ret ?_
    rw [hb0, if_pos q]; rfl
  · rw [inB_ge (by omega) q]
    refine Rn_ret ?_
    rw [hb0, if_neg (Int32.not_lt.mpr q)]
    split <;> rfl
  · rw [inB_nI hn (by omega), if_pos rfl, if_pos rfl, tn_nI' (by omega)]
    refine Rn_go (by rw [hb0, if_neg (nI_pos (by omega)), if_pos (nI_lt hn (by omega))]) ?_
    have e' : cntC g 1 0 = nI C := by rw [cntC_far g 1 (by decide) (by decide) (by decide), e]
    refine Rn_loop (fun c => [some (.inr (some 0)), some (.inl (nI n)), some (.inl (nI (sett (cntC g 47) n c))), some (.inl (nI c))]) (fun _ => cntC g) C (fun c hc => ?_) (Rn_ret ?_)
    · rw [blk_X4_settles_27, e', shr_bit (by omega) (by omega), shl1 c (by omega), nI_or]
      simp only [← nI_0]
      by_cases k1 : n / 2 ^ c % 2 = 0
      · have ha := alk_bit C hC5 n hn c hc k1
        rw [k1]
        simp (disch := omega) only [nI_leI, nI_ltI, nI_eq, tn_nI, tn_nI', inB_eq, decide_eq_true_eq, Bool.and_eq_true, decide_true, Bool.and_true, Bool.true_and, Bool.and_self, nI_add, pk_mul, fiv_eq, if_pos, if_neg, ↓reduceIte, b2i_0, and_self, and_true, true_and]
        by_cases k2 : cntC g 47 (alk n + 2 * 5 ^ c) = nI 0
        · have k2' : cntC g 47 (alk n + 2 * 5 ^ c) = 0 := k2
          rw [if_pos k2]
          simp only [sett]
          rw [if_pos ⟨k1, k2'⟩]
        · have k2' : ¬ cntC g 47 (alk n + 2 * 5 ^ c) = 0 := k2
          simp [k2, sett, k1, k2']
      · simp (disch := omega) only [nI_leI, nI_ltI, nI_eq, tn_nI, tn_nI', inB_eq, decide_eq_true_eq, Bool.and_eq_true, decide_true, Bool.and_true, Bool.true_and, Bool.and_self, nI_add, pk_mul, fiv_eq, if_pos, if_neg, ↓reduceIte, b2i_0, and_self, and_true, true_and]
        simp [sett, k1]
    · rw [blk_X4_settles_27, e', if_pos (nI_le (by omega) (by omega))]
theorem run_X4_keys (E : Ex) (g : Sg) (h : (gC g) = true) : Rn (T_X4_keys E ev_X4_keys) K_X4_keys 0 [some (.inr (some 0))] [] g (some (.inl (nI (sm (fun n => ct1 (lky (cntC g 47) n)) (2 ^ tn (g 1 0))))), cntC g) := by
  have hC : inB (g 1 0) 5 = true := h
  obtain ⟨C, hC5, e⟩ := (inB_iff (by decide)).mp hC
  have hp := pow2_b hC5
  rw [e, tn_nI' (by omega)]
  refine Rn_go (by rw [blk_X4_keys_0, h]; rfl) ?_
  have e' : cntC g 1 0 = nI C := by rw [cntC_far g 1 (by decide) (by decide) (by decide), e]
  refine Rn_loop (fun n => [some (.inr (some 0)), some (.inl (nI (sm (fun n => ct1 (lky (cntC g 47) n)) n))), some (.inl (nI n))]) (fun _ => cntC g) (2 ^ C) (fun n hn => ?_) (Rn_ret ?_)
  · rw [blk_X4_keys_8, e', shl1 C (by omega)]
    simp (disch := omega) only [nI_leI, nI_ltI, nI_eq, tn_nI, tn_nI', inB_eq, decide_eq_true_eq, Bool.and_eq_true, decide_true, Bool.and_true, Bool.true_and, Bool.and_self, nI_add, pk_mul, fiv_eq, if_pos, if_neg, ↓reduceIte, b2i_0, and_self, and_true, true_and]
    simp only [sm]
    cases lky (cntC g 47) n <;> simp [ct1_t, ct1_f]
  · rw [blk_X4_keys_8, e', shl1 C (by omega), if_pos (nI_le (by omega) (by omega))]
theorem run_X4_key (E : Ex) (g : Sg) (a1 : Int32) (h : (gC g) = true) : Rn (T_X4_key E ev_X4_key) K_X4_key 0 [some (.inr (some 0)), some (.inl a1)] [] g (some (.inl (if 0 ≤ a1 then finV (fin (lky (cntC g 47)) (2 ^ tn (g 1 0)) 0 (tn a1)) else -1)), (if 0 ≤ a1 then cntC g else g)) := by
  have hC : inB (g 1 0) 5 = true := h
  obtain ⟨C, hC5, e⟩ := (inB_iff (by decide)).mp hC
  have hp := pow2_b hC5
  by_cases k0 : 0 ≤ a1
  · obtain ⟨k, hk, rfl⟩ := ge0_nI k0
    refine Rn_go (by rw [blk_X4_key_0, h, if_pos k0]; rfl) ?_
    rw [if_pos k0, if_pos k0, e, tn_nI' (by omega), tn_nI' (by omega)]
    have e' : cntC g 1 0 = nI C := by rw [cntC_far g 1 (by decide) (by decide) (by decide), e]
    have step : ∀ t b, t < 2 ^ C → b ≤ k → seg (T_X4_key E ev_X4_key) K_X4_key 2000 14 [some (.inr (some 0)), some (.inl (nI k)), some (.inl (nI b)), some (.inl (nI t))] [] (cntC g) = if lky (cntC g 47) t = true then (if b = 0 then some (.inl (some (.inl (nI t)), cntC g)) else some (.inr (14, [some (.inr (some 0)), some (.inl (nI k)), some (.inl (nI b + (-1))), some (.inl (nI (t + 1)))], [], cntC g))) else some (.inr (14, [some (.inr (some 0)), some (.inl (nI k)), some (.inl (nI b)), some (.inl (nI (t + 1)))], [], cntC g)) := by
      intro t b ht hb
      rw [blk_X4_key_14, e', shl1 C (by omega)]
      simp only [← nI_0]
      simp (disch := omega) only [nI_leI, nI_ltI, nI_eq, tn_nI, tn_nI', inB_eq, decide_eq_true_eq, Bool.and_eq_true, decide_true, Bool.and_true, Bool.true_and, Bool.and_self, nI_add, pk_mul, fiv_eq, if_pos, if_neg, ↓reduceIte, b2i_0, and_self, and_true, true_and, b2i_n0]
      cases lky (cntC g 47) t <;> simp
    generalize hr : fin (lky (cntC g 47)) (2 ^ C) 0 k = r
    refine Rn_fin (lky (cntC g 47)) (fun t b => [some (.inr (some 0)), some (.inl (nI k)), some (.inl (nI b)), some (.inl (nI t))]) (cntC g) (2 ^ C) k r ?_ ?_ ?_ ?_ (2 ^ C) 0 k (by omega) (Nat.le_refl _) hr
    · intro t b ht hb hp
      rw [step t b ht hb, if_neg (by rw [hp]; decide)]
    · intro t b ht hb hp
      rw [step t (b + 1) ht hb, if_pos hp, if_neg (by omega), pred_nI]
    · intro t ht hp hrt
      refine Rn_ret ?_
      rw [step t 0 ht (by omega), if_pos hp, if_pos rfl, hrt]
      rfl
    · intro b hb hrb
      refine Rn_ret ?_
      rw [blk_X4_key_14, e', shl1 C (by omega), hrb, if_pos (nI_le (by omega) (by omega))]
      rfl
  · refine Rn_ret ?_
    rw [blk_X4_key_0, if_neg k0, if_neg k0, if_neg k0]
