/-! RUNS: mending -/
theorem nI_and (a b : Nat) : nI a &&& nI b = nI (a &&& b) := by
  apply Int32.toBitVec_inj.mp
  show BitVec.ofNat 32 a &&& BitVec.ofNat 32 b = BitVec.ofNat 32 (a &&& b)
  exact (BitVec.ofNat_and).symm
theorem nI_andn {a x : Nat} (ha : a < 65536) : nI a &&& (nI x ^^^ (-1)) = nI (a &&& (65535 ^^^ x)) := by
  apply Int32.toBitVec_inj.mp
  show BitVec.ofNat 32 a &&& (BitVec.ofNat 32 x ^^^ (-1 : Int32).toBitVec) = BitVec.ofNat 32 (a &&& (65535 ^^^ x))
  have h1 : (-1 : Int32).toBitVec = BitVec.allOnes 32 := by decide
  rw [h1]
  apply BitVec.eq_of_getLsbD_eq
  intro i hi
  simp only [BitVec.getLsbD_and, BitVec.getLsbD_xor, BitVec.getLsbD_ofNat, BitVec.getLsbD_allOnes, Nat.testBit_and, Nat.testBit_xor, hi, decide_true, Bool.true_and]
  by_cases h16 : i < 16
  · have : Nat.testBit 65535 i = true := by
      have : ∀ i, i < 16 → Nat.testBit 65535 i = true := by decide
      exact this i h16
    rw [this, Bool.xor_comm]
  · have : Nat.testBit a i = false := Nat.testBit_lt_two_pow (Nat.lt_of_lt_of_le ha (show 2 ^ 16 ≤ 2 ^ i from Nat.pow_le_pow_right (by decide) (by omega)))
    simp [this]
theorem ush1 {n : Nat} (hn : n < 2 ^ 31) : ((nI n).toUInt32 >>> ((nI 1).toUInt32 &&& Int32.toUInt32 31)).toInt32 = nI (n / 2 ^ 1) := pk_ushrN (by omega) (nI 1) 1 (by decide)
theorem ush2 {n : Nat} (hn : n < 2 ^ 31) : ((nI n).toUInt32 >>> ((nI 2).toUInt32 &&& Int32.toUInt32 31)).toInt32 = nI (n / 2 ^ 2) := pk_ushrN (by omega) (nI 2) 2 (by decide)
theorem ush4 {n : Nat} (hn : n < 2 ^ 31) : ((nI n).toUInt32 >>> ((nI 4).toUInt32 &&& Int32.toUInt32 31)).toInt32 = nI (n / 2 ^ 4) := pk_ushrN (by omega) (nI 4) 4 (by decide)
theorem ush8 {n : Nat} (hn : n < 2 ^ 31) : ((nI n).toUInt32 >>> ((nI 8).toUInt32 &&& Int32.toUInt32 31)).toInt32 = nI (n / 2 ^ 8) := pk_ushrN (by omega) (nI 8) 8 (by decide)
theorem ush16 {n : Nat} (hn : n < 2 ^ 31) : ((nI n).toUInt32 >>> ((nI 16).toUInt32 &&& Int32.toUInt32 31)).toInt32 = nI (n / 2 ^ 16) := pk_ushrN (by omega) (nI 16) 16 (by decide)
theorem and_leL (a b : Nat) : a &&& b ≤ a := Nat.and_le_left
theorem and_leR (a b : Nat) : a &&& b ≤ b := Nat.and_le_right
theorem run_J6_bitCount_0f7a4 (E : Ex) (g : Sg) (a0 : Int32) (h : (inB a0 65536) = true) : Rn (T_J6_bitCount_0f7a4 E ev_J6_bitCount_0f7a4) K_J6_bitCount_0f7a4 0 [some (.inl a0)] [] g (some (.inl (nI (popc (tn a0)))), g) := by
  obtain ⟨n, hn, rfl⟩ := (inB_iff (by decide)).mp h
  obtain ⟨p1, p2⟩ := pop_ok hn
  refine Rn_ret ?_
  rw [blk_J6_bitCount_0f7a4_0, tn_nI' (by omega), ush1 (by omega), nI_and, pk_sub p2]
  change some (Sum.inl (some (Sum.inl _), g)) = _
  have hA : pA n ≤ n := Nat.sub_le _ _
  change _ = some (Sum.inl (some (Sum.inl (nI (popc n))), g))
  rw [← p1]
  have eA : n - (n / 2 ^ 1 &&& 1431655765) = pA n := rfl
  rw [eA]
  generalize pA n = a at hA ⊢
  rw [ush2 (by omega), nI_and, nI_and, nI_add]
  have eB : (a &&& 858993459) + (a / 2 ^ 2 &&& 858993459) = pB a := rfl
  have hB : pB a ≤ 2 * a := by
    unfold pB
    have := and_leL a 858993459
    have := and_leL (a / 2 ^ 2) 858993459
    have := Nat.div_le_self a (2 ^ 2)
    omega
  rw [eB]
  generalize pB a = b at hB ⊢
  rw [ush4 (by omega), nI_add, nI_and]
  have eC : (b + b / 2 ^ 4) &&& 252645135 = pC b := rfl
  have hC : pC b ≤ 2 * b := by
    unfold pC
    have := and_leL (b + b / 2 ^ 4) 252645135
    have := Nat.div_le_self b (2 ^ 4)
    omega
  rw [eC]
  generalize pC b = c at hC ⊢
  rw [ush8 (by omega), nI_add]
  have eD : c + c / 2 ^ 8 = pD c := rfl
  have hD : pD c ≤ 2 * c := by
    unfold pD
    have := Nat.div_le_self c (2 ^ 8)
    omega
  rw [eD]
  generalize pD c = d at hD ⊢
  rw [ush16 (by omega), nI_add, nI_and]
  rfl
theorem run_X1_weightOf (E : Ex) (g : Sg) (a1 : Int32) (h : (inB a1 65536) = true) : Rn (T_X1_weightOf E ev_X1_weightOf) K_X1_weightOf 0 [some (.inr (some 50)), some (.inl a1)] [] g (some (.inl (wsI (g 50) (tn a1) 16)), g) := by
  obtain ⟨n, hn, rfl⟩ := (inB_iff (by decide)).mp h
  refine Rn_go (blk_X1_weightOf_0 E g _) ?_
  rw [tn_nI' (by omega)]
  refine Rn_loop (fun j => [some (.inr (some 50)), some (.inl (nI n)), some (.inl (wsI (g 50) n j)), some (.inl (nI j))]) (fun _ => g) 16 (fun j hj => ?_) (Rn_ret ?_)
  · rw [blk_X1_weightOf_4, shr_bit hn hj]
    simp (disch := omega) only [nI_leI, nI_ltI, nI_eq, tn_nI, tn_nI', inB_eq, decide_eq_true_eq, Bool.and_eq_true, decide_true, Bool.and_true, Bool.true_and, Bool.and_self, nI_add, pk_mul, fiv_eq, if_pos, if_neg, ↓reduceIte, b2i_0, and_self, and_true, true_and]
    by_cases k : n / 2 ^ j % 2 = 1 <;> simp [wsI, k]
  · rw [blk_X1_weightOf_4, if_pos (nI_le (by omega) (by decide))]
theorem popc_le (n : Nat) : popc n ≤ 16 * 1 := sm_le (fun i _ => by omega)
theorem foes_at {g : Sg} (h : foesOK g = true) {s : Nat} (hs : s < 16) : ∃ f, f < 65536 ∧ g 49 s = nI f := (inB_iff (by decide)).mp (al_iff.mp h s hs)
theorem bsP_m (f : Nat → Int32) (left : Nat) : ∀ s, (bsP f left s).2 ≤ 16
  | 0 => by simp [bsP]
  | s + 1 => by
    simp only [bsP]
    split
    · unfold mny
      split
      · have := popc_le (tn (f s) &&& left)
        omega
      · omega
    · exact bsP_m f left s
theorem run_X1_busiest (E : Ex) (g : Sg) (a1 : Int32) (h : (inB a1 65536 && foesOK g) = true) : Rn (T_X1_busiest E ev_X1_busiest) K_X1_busiest 0 [some (.inr (some 49)), some (.inl a1)] [] g (some (.inl (bsP (g 49) (tn a1) 16).1), g) := by
  rw [Bool.and_eq_true] at h
  obtain ⟨n, hn, rfl⟩ := (inB_iff (by decide)).mp h.1
  refine Rn_go (blk_X1_busiest_0 E g _) ?_
  rw [tn_nI' (by omega)]
  refine Rn_loop (fun s => [some (.inr (some 49)), some (.inl (nI n)), some (.inl (bsP (g 49) n s).1), some (.inl (nI (bsP (g 49) n s).2)), some (.inl (nI s))]) (fun _ => g) 16 (fun s hs => ?_) (Rn_ret ?_)
  · obtain ⟨f, hf, ef⟩ := foes_at h.2 hs
    have hm := bsP_m (g 49) n s
    have hl := and_leR f n
    have hpc := popc_le (f &&& n)
    rw [blk_X1_busiest_7, shr_bit hn hs]
    simp (disch := omega) only [nI_leI, nI_ltI, nI_eq, tn_nI, tn_nI', inB_eq, decide_eq_true_eq, Bool.and_eq_true, decide_true, Bool.and_true, Bool.true_and, Bool.and_self, nI_add, pk_mul, fiv_eq, if_pos, if_neg, ↓reduceIte, b2i_0, and_self, and_true, true_and]
    rw [ef, nI_and, tn_nI' (by omega)]
    simp (disch := omega) only [nI_leI, nI_ltI, nI_eq, tn_nI, tn_nI', inB_eq, decide_eq_true_eq, Bool.and_eq_true, decide_true, Bool.and_true, Bool.true_and, Bool.and_self, nI_add, pk_mul, fiv_eq, if_pos, if_neg, ↓reduceIte, b2i_0, and_self, and_true, true_and]
    have hmny : mny (g 49) n s = if n / 2 ^ s % 2 = 1 then popc (f &&& n) else 0 := by
      unfold mny
      rw [ef, tn_nI' (by omega)]
    have hs1 : bsP (g 49) n (s + 1) = if (bsP (g 49) n s).2 < mny (g 49) n s then (nI s, mny (g 49) n s) else bsP (g 49) n s := rfl
    rw [hs1, hmny]
    by_cases k : n / 2 ^ s % 2 = 1
    · simp only [k, if_true]
      by_cases k2 : popc (f &&& n) ≤ (bsP (g 49) n s).2
      · have k2' : ¬ (bsP (g 49) n s).2 < popc (f &&& n) := by omega
        simp [k2, k2']
      · have k2' : (bsP (g 49) n s).2 < popc (f &&& n) := by omega
        simp [k2, k2']
    · simp [k]
  · rw [blk_X1_busiest_7, if_pos (nI_le (by omega) (by decide))]
theorem bsP_v (f : Nat → Int32) (left : Nat) : ∀ s, s ≤ 16 → (bsP f left s).1 = -1 ∨ ∃ k, k < s ∧ (bsP f left s).1 = nI k
  | 0, _ => Or.inl rfl
  | s + 1, hs => by
    simp only [bsP]
    split
    · exact Or.inr ⟨s, by omega, rfl⟩
    · rcases bsP_v f left s (by omega) with q | ⟨k, h1, h2⟩
      · exact Or.inl q
      · exact Or.inr ⟨k, by omega, h2⟩
theorem run_X1_cost (E : Ex) (g : Sg) (h : true = true) : Rn (T_X1_cost E ev_X1_cost) K_X1_cost 0 [some (.inr (some 48))] [] g (some (.inl (g 48 3 / nI 65536)), g) := Rn_ret (blk_X1_cost_0 E g)
theorem run_X1_slots (E : Ex) (g : Sg) (h : true = true) : Rn (T_X1_slots E ev_X1_slots) K_X1_slots 0 [some (.inr (some 48))] [] g (some (.inl (g 48 3 - g 48 3 / nI 65536 * nI 65536)), g) := Rn_ret (blk_X1_slots_0 E g)
theorem run_X1_breaksOne (E : Ex) (g : Sg) (a1 a2 : Int32) (h : (inB a1 16 && inB a2 16 && gC g && toldOK g) = true) : Rn (T_X1_breaksOne E ev_X1_breaksOne) K_X1_breaksOne 0 [some (.inr (some 1)), some (.inl a1), some (.inl a2)] [] g (some (.inl (b2i (b1C g (tn a1) (tn a2)))), g) := by
  rw [Bool.and_eq_true, Bool.and_eq_true, Bool.and_eq_true] at h
  obtain ⟨s, hs, rfl⟩ := (inB_iff (by decide)).mp h.1.1.1
  obtain ⟨t, ht, rfl⟩ := (inB_iff (by decide)).mp h.1.1.2
  have hC : inB (g 1 0) 5 = true := h.1.2
  refine Rn_go (blk_X1_breaksOne_0 E g _ _) ?_
  rw [tn_nI' (by omega), tn_nI' (by omega)]
  have step : ∀ i, i < 4 → seg (T_X1_breaksOne E ev_X1_breaksOne) K_X1_breaksOne 2000 2 [some (.inr (some 1)), some (.inl (nI s)), some (.inl (nI t)), some (.inl (nI i))] [] g = if (!(!decide (g 6 i = 0) && pbC g s t (tn (g 6 i)))) = true then some (.inr (2, [some (.inr (some 1)), some (.inl (nI s)), some (.inl (nI t)), some (.inl (nI (i + 1)))], [], g)) else some (.inl (some (.inl (nI 1)), g)) := by
    intro i hi
    have hto := al_iff.mp h.2 i hi
    rw [blk_X1_breaksOne_2, hC]
    simp (disch := omega) only [nI_leI, nI_ltI, nI_eq, tn_nI, tn_nI', inB_eq, decide_eq_true_eq, Bool.and_eq_true, decide_true, Bool.and_true, Bool.true_and, Bool.and_self, nI_add, pk_mul, fiv_eq, if_pos, if_neg, ↓reduceIte, b2i_0, and_self, and_true, true_and]
    rw [hto]
    by_cases k : g 6 i = 0
    · simp [k]
    · cases pbC g s t (tn (g 6 i)) <;> simp [k, hs, ht]
  refine Rn_loopE (fun i => !(!decide (g 6 i = 0) && pbC g s t (tn (g 6 i)))) (fun i => [some (.inr (some 1)), some (.inl (nI s)), some (.inl (nI t)), some (.inl (nI i))]) (fun _ => g) 4 (fun i hi hp => ?_) (fun i hi hp _ => Rn_ret ?_) (fun hp => Rn_ret ?_)
  · rw [step i hi, if_pos hp]
  · rw [step i hi, if_neg (by rw [hp]; decide)]
    unfold b1C
    rw [al_f hi hp]; rfl
  · rw [blk_X1_breaksOne_2, if_pos (nI_le (by omega) (by decide))]
    unfold b1C
    rw [al_iff.mpr hp]; rfl
theorem lcI_succ (f w : Nat → Int32) (k left : Nat) : lcI f w (k + 1) left = if (bsP f left 16).1 = -1 then 0 else
    (if popc (tn (f (tn (bsP f left 16).1)) &&& left) = 1 then
      minI (wsI w (tn (f (tn (bsP f left 16).1)) &&& left) 16) (w (tn (bsP f left 16).1)) + lcI f w k (left &&& (65535 ^^^ 2 ^ tn (bsP f left 16).1) &&& (65535 ^^^ (tn (f (tn (bsP f left 16).1)) &&& left)))
    else minI (wsI w (tn (f (tn (bsP f left 16).1)) &&& left) 16 + lcI f w k (left &&& (65535 ^^^ 2 ^ tn (bsP f left 16).1) &&& (65535 ^^^ (tn (f (tn (bsP f left 16).1)) &&& left)))) (w (tn (bsP f left 16).1) + lcI f w k (left &&& (65535 ^^^ 2 ^ tn (bsP f left 16).1)))) := rfl
theorem run_lcd (E : Ex) (d : Nat) (g : Sg) (a2 a3 : Int32) (h : (inB a2 65536 && foesOK g && inB a3 18 && decide (17 - tn a3 < d + 1)) = true) : Rn (T_X1_lightestCover E (ev_lcd d)) K_X1_lightestCover 0 [some (.inr (some 49)), some (.inr (some 50)), some (.inl a2), some (.inl a3)] [] g (some (.inl (lcI (g 49) (g 50) (17 - tn a3) (tn a2))), g) := by
  rw [Bool.and_eq_true, Bool.and_eq_true, Bool.and_eq_true, decide_eq_true_eq] at h
  obtain ⟨⟨⟨h1, h2⟩, h3⟩, h4⟩ := h
  obtain ⟨n, hn, rfl⟩ := (inB_iff (by decide)).mp h1
  obtain ⟨p, hp, rfl⟩ := (inB_iff (by decide)).mp h3
  rw [tn_nI' (by omega)] at h4
  refine Rn_ret ?_
  rw [blk_lcd, h1, h2, tn_nI' (by omega), tn_nI' (by omega)]
  rcases bsP_v (g 49) n 16 (Nat.le_refl _) with q | ⟨k, hk, q⟩
  · have e0 : lcI (g 49) (g 50) (17 - p) n = 0 := by
      cases hh : 17 - p with
      | zero => rfl
      | succ m => unfold lcI; rw [if_pos q]
    rw [q, e0]
    rfl
  · have hne : ¬ nI k = (-1 : Int32) := fun z => absurd (nI_pos' (n := k) (by omega)) (by rw [z]; decide)
    rw [q]
    by_cases hp17 : p = 17
    · subst hp17
      rw [if_neg hne, if_neg (nI_ge (by omega) (by decide))]
      rfl
    · obtain ⟨f, hf, ef⟩ := foes_at h2 hk
      have e1 : 17 - p = (16 - p) + 1 := by omega
      have hag := and_leR f n
      have hot : n &&& (65535 ^^^ 2 ^ k) < 65536 := Nat.lt_of_le_of_lt (and_leL _ _) hn
      have hot2 : n &&& (65535 ^^^ 2 ^ k) &&& (65535 ^^^ (f &&& n)) < 65536 := Nat.lt_of_le_of_lt (and_leL _ _) hot
      rw [e1, lcI_succ, q, if_neg hne, if_neg hne, tn_nI (by omega), tn_nI' (show k < 2 ^ 31 by omega), ef, nI_and, shl1 k (by omega), nI_andn hn, nI_andn hot, nI_add]
      rw [tn_nI' (show f &&& n < 2 ^ 31 by omega), tn_nI' (show n &&& (65535 ^^^ 2 ^ k) &&& (65535 ^^^ (f &&& n)) < 2 ^ 31 by omega), tn_nI' (show n &&& (65535 ^^^ 2 ^ k) < 2 ^ 31 by omega), tn_nI' (show p + 1 < 2 ^ 31 by omega), tn_nI' (show f < 2 ^ 31 by omega)]
      rw [show 17 - (p + 1) = 16 - p by omega, inB_nI hk (by decide), inB_nI (show f &&& n < 65536 by omega) (by decide), inB_nI hot (by decide), inB_nI hot2 (by decide), inB_nI (show p + 1 < 18 by omega) (by decide), if_pos (nI_le (by omega) (by decide))]
      have hd : decide (16 - p < d) = true := by simp; omega
      rw [hd]
      have hpc := popc_le (f &&& n)
      by_cases k1 : popc (f &&& n) = 1
      · simp [k1]
      · have k1' : ¬ nI (popc (f &&& n)) = nI 1 := by rw [nI_eq (by omega) (by decide)]; exact k1
        simp [k1, k1']
