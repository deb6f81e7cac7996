/-! RUNS: the class's own calls -/
theorem us_upd_id (g : Sg) (q j : Nat) : us g q (upd (g q) j (g q j)) = g := by
  have : upd (g q) j (g q j) = g q := by
    funext i
    unfold upd
    by_cases h : i = j
    · rw [if_pos h, h]
    · rw [if_neg h]
  rw [this, us_id]
theorem run_X0_keep (E : Ex) (g : Sg) (h : (gH g) = true) : Rn (T_X0_keep E ev_X0_keep) K_X0_keep 0 [some (.inr (some 7)), some (.inr (some 1))] [] g (none, keepC g) := by
  obtain ⟨x, hx, e⟩ := (inB_iff (by decide)).mp h
  have hid : us g 7 (upd (g 7) 1 (nI x)) = g := by rw [← e]; exact us_upd_id g 7 1
  have h2 : keepC g = us (us (cpS g 1 (9 + 6 * x)) 7 (upd (g 7) 1 (g 7 1 + nI 1 - (g 7 1 + nI 1) / nI 6 * nI 6))) 7 (upd (upd (g 7) 1 (g 7 1 + nI 1 - (g 7 1 + nI 1) / nI 6 * nI 6)) 2 (minI (g 7 2 + nI 1) (nI 6))) := by
    unfold keepC
    rw [us_us, e, tn_nI' (by omega), nI_add, pk_rem (by omega) (by decide) (by decide)]
  rw [h2]
  refine Rn_ret ?_
  rcases (show x = 0 ∨ x = 1 ∨ x = 2 ∨ x = 3 ∨ x = 4 ∨ x = 5 by omega) with q | q | q | q | q | q <;> subst q
  · have hb := blk0_X0_keep_0 E g
    rw [hid] at hb
    exact hb
  · have hb := blk1_X0_keep_0 E g
    rw [hid] at hb
    exact hb
  · have hb := blk2_X0_keep_0 E g
    rw [hid] at hb
    exact hb
  · have hb := blk3_X0_keep_0 E g
    rw [hid] at hb
    exact hb
  · have hb := blk4_X0_keep_0 E g
    rw [hid] at hb
    exact hb
  · have hb := blk5_X0_keep_0 E g
    rw [hid] at hb
    exact hb
theorem run_X0_giveBack (E : Ex) (g : Sg) (h : (gH g) = true) : Rn (T_X0_giveBack E ev_X0_giveBack) K_X0_giveBack 0 [some (.inr (some 7)), some (.inr (some 1))] [] g (some (.inl (b2i (!decide (g 7 2 = 0)))), (if g 7 2 = 0 then g else backC g)) := by
  obtain ⟨x, hx, e⟩ := (inB_iff (by decide)).mp h
  by_cases k : g 7 2 = 0
  · rw [if_pos k]
    refine Rn_ret ?_
    rw [blk_X0_giveBack_0, if_pos k]
    simp [k]; rfl
  · rw [if_neg k]
    refine Rn_go (by rw [blk_X0_giveBack_0, if_neg k]) ?_
    rw [us_us, e, nI_add, pk_sub (show 1 ≤ x + 6 by omega), pk_rem (by omega) (by decide) (by decide)]
    have hy : (x + 6 - 1) % 6 < 6 := Nat.mod_lt _ (by decide)
    have hy2 : (x + 5) % 6 = (x + 6 - 1) % 6 := by congr 1
    have h2 : backC g = cpS (us g 7 (upd (upd (g 7) 1 (nI ((x + 6 - 1) % 6))) 2 (g 7 2 - nI 1))) (9 + 6 * ((x + 6 - 1) % 6)) 1 := by
      unfold backC
      rw [e, tn_nI' (by omega), hy2]
    rw [h2]
    generalize (x + 6 - 1) % 6 = y at hy
    refine Rn_ret ?_
    have e3 : (b2i (!decide (g 7 2 = 0))) = nI 1 := by simp [k]; rfl
    rw [e3]
    have e1 : upd (g 7) 1 (nI y) 2 = g 7 2 := rfl
    rw [e1]
    generalize hS : us g 7 (upd (upd (g 7) 1 (nI y)) 2 (g 7 2 - nI 1)) = S
    have hS1 : S 7 1 = nI y := by rw [← hS]; rfl
    have hid : us S 7 (upd (S 7) 1 (nI y)) = S := by rw [← hS1]; exact us_upd_id S 7 1
    rcases (show y = 0 ∨ y = 1 ∨ y = 2 ∨ y = 3 ∨ y = 4 ∨ y = 5 by omega) with q | q | q | q | q | q <;> subst q
    · have hb := blk0_X0_giveBack_35 E S
      rw [hid] at hb
      exact hb
    · have hb := blk1_X0_giveBack_35 E S
      rw [hid] at hb
      exact hb
    · have hb := blk2_X0_giveBack_35 E S
      rw [hid] at hb
      exact hb
    · have hb := blk3_X0_giveBack_35 E S
      rw [hid] at hb
      exact hb
    · have hb := blk4_X0_giveBack_35 E S
      rw [hid] at hb
      exact hb
    · have hb := blk5_X0_giveBack_35 E S
      rw [hid] at hb
      exact hb
theorem cpS_far (g : Sg) (s d k : Nat) (h : k < d ∨ d + 5 < k) : cpS g s d k = g k := by
  unfold cpS
  rw [us_n _ (by omega), us_n _ (by omega), us_n _ (by omega), us_n _ (by omega), us_n _ (by omega), us_n _ (by omega)]
theorem keepC_0 (g : Sg) : keepC g 0 = g 0 := by
  unfold keepC
  rw [us_n _ (by decide), cpS_far _ _ _ _ (by omega)]
theorem run_X4_remember (E : Ex) (g : Sg) (h : (gH g) = true) : Rn (T_X4_remember E ev_X4_remember) K_X4_remember 0 [some (.inr (some 0))] [] g (none, remC g) := by
  refine Rn_ret ?_
  rw [blk_X4_remember_0, if_pos h, us_us, keepC_0]
  rfl
theorem run_X4_count (E : Ex) (g : Sg) (h : (gC g) = true) : Rn (T_X4_count E ev_X4_count) K_X4_count 0 [some (.inr (some 0))] [] g (none, cntC g) := by
  refine Rn_ret ?_
  rw [blk_X4_count_0]
  unfold cntC
  by_cases k : g 0 4 = 0
  · rw [if_pos k, if_pos k, if_pos (show inB (g 1 0) 5 = true from h)]; rfl
  · rw [if_neg k, if_neg k]
theorem backC_0 (g : Sg) : backC g 0 = g 0 := by
  unfold backC
  rw [cpS_far _ _ _ _ (by omega), us_n _ (by decide)]
theorem run_X4_undo (E : Ex) (g : Sg) (h : (gH g) = true) : Rn (T_X4_undo E ev_X4_undo) K_X4_undo 0 [some (.inr (some 0))] [] g (some (.inl (b2i (!decide (g 7 2 = 0)))), (if g 7 2 = 0 then g else undC g)) := by
  refine Rn_ret ?_
  rw [blk_X4_undo_0, if_pos h]
  by_cases k : g 7 2 = 0
  · simp [k, b2i]; rfl
  · simp only [k, decide_false, Bool.not_false, if_false]
    rw [us_us, backC_0]
    rfl
theorem isI_c {a b x : Int32} : isI x a b = true ↔ ¬ x < a ∧ x ≤ b := by
  unfold isI
  simp only [Bool.and_eq_true, decide_eq_true_eq]
  rw [Int32.not_lt]
theorem run_X4_table (E : Ex) (g : Sg) (a1 : Int32) (h : (gH g) = true) : Rn (T_X4_table E ev_X4_table) K_X4_table 0 [some (.inr (some 0)), some (.inl a1)] [] g (some (.inl (b2i (isI a1 1 4))), (if isI a1 1 4 = true then tabC g a1 else g)) := by
  refine Rn_ret ?_
  rw [blk_X4_table_0, if_pos h]
  have e1 : nI 1 = (1 : Int32) := rfl
  have e4 : nI 4 = (4 : Int32) := rfl
  rw [e1, e4]
  cases hb : isI a1 1 4 with
  | true =>
    obtain ⟨c1, c2⟩ := isI_c.mp hb
    rw [if_neg c1, if_pos c2]
    rfl
  | false =>
    by_cases c1 : a1 < 1
    · rw [if_pos c1]; rfl
    · rw [if_neg c1, if_neg (fun c2 => by rw [isI_c.mpr ⟨c1, c2⟩] at hb; cases hb)]; rfl
theorem run_X4_strike (E : Ex) (g : Sg) (a1 : Int32) (h : (gH g) = true) : Rn (T_X4_strike E ev_X4_strike) K_X4_strike 0 [some (.inr (some 0)), some (.inl a1)] [] g (some (.inl (b2i (rowB g a1))), (if rowB g a1 = true then strC g a1 else g)) := by
  refine Rn_ret ?_
  rw [blk_X4_strike_0, if_pos h]
  unfold rowB
  cases hb : inB a1 16 with
  | false => simp [b2i]; rfl
  | true => cases rwC g (tn a1) <;> simp [b2i] <;> first | rfl | exact ⟨rfl, rfl⟩
theorem run_X4_price (E : Ex) (g : Sg) (a1 a2 : Int32) (h : (gH g) = true) : Rn (T_X4_price E ev_X4_price) K_X4_price 0 [some (.inr (some 0)), some (.inl a1), some (.inl a2)] [] g (some (.inl (b2i (rowB g a1 && isI a2 0 99))), (if (rowB g a1 && isI a2 0 99) = true then priC g a1 a2 else g)) := by
  refine Rn_ret ?_
  rw [blk_X4_price_0, if_pos h]
  have e1 : nI 99 = (99 : Int32) := rfl
  rw [e1]
  unfold rowB
  cases hb : inB a1 16 with
  | false => simp [b2i]; rfl
  | true =>
    cases rwC g (tn a1) with
    | false => simp [b2i]; rfl
    | true =>
      cases hc : isI a2 0 99 with
      | true =>
        obtain ⟨c1, c2⟩ := isI_c.mp hc
        simp [b2i, c1, c2]; exact ⟨rfl, rfl⟩
      | false =>
        by_cases c1 : a2 < 0
        · simp [b2i, c1]; rfl
        · have c2 : ¬ a2 ≤ 99 := fun c2 => by rw [isI_c.mpr ⟨c1, c2⟩] at hc; cases hc
          simp [b2i, c1, c2]; rfl
theorem col_nI {g : Sg} {c : Int32} (hC : gC g = true) (h : colB g c = true) : ∃ j, j < 4 ∧ c = nI j := by
  obtain ⟨C, h1, e⟩ := (inB_iff (by decide)).mp hC
  unfold colB at h
  simp only [Bool.and_eq_true, decide_eq_true_eq] at h
  obtain ⟨j, hj, rfl⟩ := nI_of (Int32.not_lt.mpr h.1)
  rw [e, nI_ltI hj (by omega)] at h
  exact ⟨j, by omega, rfl⟩
theorem run_X4_change (E : Ex) (g : Sg) (a1 a2 a3 : Int32) (h : (gH g && gC g) = true) : Rn (T_X4_change E ev_X4_change) K_X4_change 0 [some (.inr (some 0)), some (.inl a1), some (.inl a2), some (.inl a3)] [] g (some (.inl (b2i (chB g a1 a2 a3))), (if chB g a1 a2 a3 = true then chC g a1 a2 a3 else g)) := by
  rw [Bool.and_eq_true] at h
  refine Rn_ret ?_
  rw [blk_X4_change_0, if_pos h.1]
  change (if b2i (rowB g a1) = 0 then _ else if b2i (colB g a2) = 0 then _ else _) = _
  unfold chB
  cases hr : rowB g a1 with
  | false => rfl
  | true =>
    cases hc : colB g a2 with
    | false => rfl
    | true =>
      obtain ⟨j, hj, rfl⟩ := col_nI h.2 hc
      unfold rowB at hr
      rw [Bool.and_eq_true] at hr
      obtain ⟨s, hs, rfl⟩ := (inB_iff (by decide)).mp hr.1
      simp (disch := omega) only [nI_leI, nI_ltI, nI_eq, tn_nI, tn_nI', inB_eq, decide_eq_true_eq, Bool.and_eq_true, decide_true, Bool.and_true, Bool.true_and, Bool.and_self, nI_add, pk_mul, fiv_eq, if_pos, if_neg, ↓reduceIte, b2i_0, and_self, and_true, true_and]
      by_cases c1 : g 3 s ≤ nI j
      · simp [c1, Int32.not_lt.mpr c1, b2i]; rfl
      · have c1' : nI j < g 3 s := Int32.not_le.mp c1
        cases hf : fitB (g 2 s) a3 with
        | false => simp [c1, c1', b2i, hj]; rfl
        | true =>
          simp [c1, c1', b2i, chC, hj]
          refine ⟨rfl, ?_⟩
          rw [pk_mul, nI_add, tn_nI (by omega)]
theorem run_X4_swap (E : Ex) (g : Sg) (a1 a2 : Int32) (h : (gH g && gC g) = true) : Rn (T_X4_swap E ev_X4_swap) K_X4_swap 0 [some (.inr (some 0)), some (.inl a1), some (.inl a2)] [] g (some (.inl (b2i (swB g a1 a2))), (if swB g a1 a2 = true then swC g a1 a2 else g)) := by
  rw [Bool.and_eq_true] at h
  refine Rn_ret ?_
  rw [blk_X4_swap_0, if_pos h.1]
  change (if b2i (colB g a1) = 0 then _ else if b2i (colB g a2) = 0 then _ else _) = _
  unfold swB
  cases hr : colB g a1 with
  | false => rfl
  | true =>
    cases hc : colB g a2 with
    | false => rfl
    | true =>
      obtain ⟨j, hj, rfl⟩ := col_nI h.2 hc
      obtain ⟨i, hi, rfl⟩ := col_nI h.2 hr
      rw [inB_nI hi (by decide), inB_nI hj (by decide)]
      by_cases c1 : maxI (nI i) (nI j) < shC g 16
      · simp [c1, b2i]; exact ⟨rfl, rfl⟩
      · simp [c1, b2i]; rfl
theorem run_X4_at (E : Ex) (g : Sg) (a1 a2 : Int32) (h : (gC g) = true) : Rn (T_X4_at E ev_X4_at) K_X4_at 0 [some (.inr (some 0)), some (.inl a1), some (.inl a2)] [] g (some (.inl (atV g a1 a2)), g) := by
  refine Rn_ret ?_
  rw [blk_X4_at_0]
  change (if b2i (rowB g a1) = 0 then _ else if b2i (colB g a2) = 0 then _ else _) = _
  unfold atV
  cases hr : rowB g a1 with
  | false => rfl
  | true =>
    cases hc : colB g a2 with
    | false => rfl
    | true =>
      obtain ⟨j, hj, rfl⟩ := col_nI h hc
      unfold rowB at hr
      rw [Bool.and_eq_true] at hr
      obtain ⟨s, hs, rfl⟩ := (inB_iff (by decide)).mp hr.1
      simp (disch := omega) only [nI_leI, nI_ltI, nI_eq, tn_nI, tn_nI', inB_eq, decide_eq_true_eq, Bool.and_eq_true, decide_true, Bool.and_true, Bool.true_and, Bool.and_self, nI_add, pk_mul, fiv_eq, if_pos, if_neg, ↓reduceIte, b2i_0, and_self, and_true, true_and]
      simp [b2i]
theorem run_X4_row (E : Ex) (g : Sg) (a1 a2 : Int32) (h : true = true) : Rn (T_X4_row E ev_X4_row) K_X4_row 0 [some (.inr (some 0)), some (.inl a1), some (.inl a2)] [] g (some (.inl (rowV g a1 a2)), g) := by
  refine Rn_ret ?_
  rw [blk_X4_row_0]
  unfold rowV
  have e1 : nI 1 = (1 : Int32) := rfl
  have e2 : nI 2 = (2 : Int32) := rfl
  have e3 : nI 3 = (3 : Int32) := rfl
  rw [e1, e2, e3]
  cases hb : inB a1 16 with
  | false => rfl
  | true =>
    by_cases c0 : a2 = 0
    · cases hr : rwC g (tn a1) <;> simp [b2i, c0] <;> rfl
    · cases hr : rwC g (tn a1) with
      | false => simp [b2i, c0]
      | true =>
        simp only [b2i, c0, if_false, if_true, Bool.and_self]
        by_cases c1 : a2 = 1
        · simp [c1]; rfl
        · by_cases c2 : a2 = 2
          · simp [c2]; rfl
          · by_cases c3 : a2 = 3
            · simp [c3]; rfl
            · simp [c1, c2, c3]
theorem run_X4_between (E : Ex) (g : Sg) (a1 a2 : Int32) (h : (gC g) = true) : Rn (T_X4_between E ev_X4_between) K_X4_between 0 [some (.inr (some 0)), some (.inl a1), some (.inl a2)] [] g (some (.inl (betV g a1 a2)), g) := by
  refine Rn_ret ?_
  rw [blk_X4_between_0]
  change (if a1 = a2 then _ else if b2i (rowB g a1) = 0 then _ else if b2i (rowB g a2) = 0 then _ else _) = _
  unfold betV
  by_cases c0 : a1 = a2
  · simp [c0]
  cases hr : rowB g a1 with
  | false => simp [c0, b2i]
  | true =>
    cases hc : rowB g a2 with
    | false => simp [c0, b2i]
    | true =>
      unfold rowB at hr hc
      rw [Bool.and_eq_true] at hr hc
      have hC : inB (g 1 0) 5 = true := h
      simp [c0, b2i, hr.1, hc.1, hC]
theorem law_nI {C : Nat} {x : Int32} (hC : C < 5) (h : lawB C x = true) : ∃ n, 0 < n ∧ n < 5 ^ C ∧ n < 625 ∧ x = nI n := by
  have hp := pow5_b hC
  unfold lawB at h
  simp only [Bool.and_eq_true, decide_eq_true_eq] at h
  obtain ⟨j, hj, rfl⟩ := nI_of (Int32.not_lt.mpr (Int32.le_of_lt h.1))
  rw [← nI_0, nI_ltI (by omega) hj, nI_ltI hj (by omega)] at h
  exact ⟨j, h.1, h.2, by omega, rfl⟩
theorem run_X4_pairs (E : Ex) (g : Sg) (a1 : Int32) (h : (gC g) = true) : Rn (T_X4_pairs E ev_X4_pairs) K_X4_pairs 0 [some (.inr (some 0)), some (.inl a1)] [] g (some (.inl (if prB g a1 = true then cntC g 46 (tn a1) else -1)), (if prB g a1 = true then cntC g else g)) := by
  refine Rn_ret ?_
  have hC : inB (g 1 0) 5 = true := h
  obtain ⟨C, hC5, e⟩ := (inB_iff (by decide)).mp hC
  rw [blk_X4_pairs_0, if_pos hC, if_pos h]
  unfold prB
  cases hl : lawB (tn (g 1 0)) a1 with
  | false => rfl
  | true =>
    have hl' := hl
    rw [e, tn_nI' (by omega)] at hl'
    obtain ⟨n, -, -, hn, rfl⟩ := law_nI hC5 hl'
    rw [inB_nI hn (by decide)]
    by_cases c : nI (cols (tn (nI n))) = g 1 0
    · simp [c, b2i]; rfl
    · simp [c, b2i]
theorem run_X4_kinds (E : Ex) (g : Sg) (h : (gC g) = true) : Rn (T_X4_kinds E ev_X4_kinds) K_X4_kinds 0 [some (.inr (some 0))] [] g (some (.inl (nI (sm (fun b => ct1 (!decide (cntC g 46 b = 0))) 625))), cntC g) := by
  refine Rn_ret ?_
  rw [blk_X4_kinds_0, if_pos h]
theorem run_X4_broken (E : Ex) (g : Sg) (a1 : Int32) (h : (gC g) = true) : Rn (T_X4_broken E ev_X4_broken) K_X4_broken 0 [some (.inr (some 0)), some (.inl a1)] [] g (some (.inl (if lawB (tn (g 1 0)) a1 = true then cntC g 47 (tn a1) else -1)), (if lawB (tn (g 1 0)) a1 = true then cntC g else g)) := by
  refine Rn_ret ?_
  have hC : inB (g 1 0) 5 = true := h
  obtain ⟨C, hC5, e⟩ := (inB_iff (by decide)).mp hC
  rw [blk_X4_broken_0, if_pos hC, if_pos h]
  cases hl : lawB (tn (g 1 0)) a1 with
  | false => rfl
  | true =>
    have hl' := hl
    rw [e, tn_nI' (by omega)] at hl'
    obtain ⟨n, -, -, hn, rfl⟩ := law_nI hC5 hl'
    rw [inB_nI hn (by decide)]
    simp [b2i]; rfl
theorem run_X4_least (E : Ex) (g : Sg) (a1 : Int32) (h : (gC g) = true) : Rn (T_X4_least E ev_X4_least) K_X4_least 0 [some (.inr (some 0)), some (.inl a1)] [] g (some (.inl (if lawB (tn (g 1 0)) a1 = true then nI (min (tn a1) (tun (tn a1))) else -1)), g) := by
  refine Rn_ret ?_
  have hC : inB (g 1 0) 5 = true := h
  obtain ⟨C, hC5, e⟩ := (inB_iff (by decide)).mp hC
  rw [blk_X4_least_0, if_pos hC]
  cases hl : lawB (tn (g 1 0)) a1 with
  | false => rfl
  | true =>
    have hl' := hl
    rw [e, tn_nI' (by omega)] at hl'
    obtain ⟨n, -, -, hn, rfl⟩ := law_nI hC5 hl'
    have ht := tun_lt n hn
    rw [inB_nI hn (by decide), tn_nI' (by omega)]
    have : minI (nI n) (nI (tun n)) = nI (min n (tun n)) := by
      unfold minI
      simp (disch := omega) only [nI_leI, nI_ltI, nI_eq, tn_nI, tn_nI', inB_eq, decide_eq_true_eq, Bool.and_eq_true, decide_true, Bool.and_true, Bool.true_and, Bool.and_self, nI_add, pk_mul, fiv_eq, if_pos, if_neg, ↓reduceIte, b2i_0, and_self, and_true, true_and]
      by_cases c : n ≤ tun n
      · rw [if_pos c, Nat.min_eq_left c]
      · rw [if_neg c, Nat.min_eq_right (by omega)]
    rw [this]
    rfl
theorem run_X4_said (E : Ex) (g : Sg) (a1 a2 : Int32) (h : (gC g) = true) : Rn (T_X4_said E ev_X4_said) K_X4_said 0 [some (.inr (some 0)), some (.inl a1), some (.inl a2)] [] g (some (.inl (if (lawB (tn (g 1 0)) a1 && lawB (tn (g 1 0)) a2) = true then b2i (cov (tn a2) (tn a1) || cov (tun (tn a2)) (tn a1)) else -1)), g) := by
  refine Rn_ret ?_
  have hC : inB (g 1 0) 5 = true := h
  obtain ⟨C, hC5, e⟩ := (inB_iff (by decide)).mp hC
  rw [blk_X4_said_0, if_pos hC, if_pos hC]
  cases hl : lawB (tn (g 1 0)) a1 with
  | false => rfl
  | true =>
    cases hl2 : lawB (tn (g 1 0)) a2 with
    | false => rfl
    | true =>
      rw [e, tn_nI' (by omega)] at hl hl2
      obtain ⟨n, -, -, hn, rfl⟩ := law_nI hC5 hl
      obtain ⟨k, -, -, hk, rfl⟩ := law_nI hC5 hl2
      have ht := tun_lt k hk
      simp (disch := omega) only [nI_leI, nI_ltI, nI_eq, tn_nI, tn_nI', inB_eq, decide_eq_true_eq, Bool.and_eq_true, decide_true, Bool.and_true, Bool.true_and, Bool.and_self, nI_add, pk_mul, fiv_eq, if_pos, if_neg, ↓reduceIte, b2i_0, and_self, and_true, true_and]
      cases cov k n <;> cases cov (tun k) n <;> simp [b2i] <;> rfl
theorem run_X4_tell (E : Ex) (g : Sg) (a1 a2 : Int32) (h : (gH g && gC g) = true) : Rn (T_X4_tell E ev_X4_tell) K_X4_tell 0 [some (.inr (some 0)), some (.inl a1), some (.inl a2)] [] g (some (.inl (b2i (tlB (tn (g 1 0)) a1 a2))), (if tlB (tn (g 1 0)) a1 a2 = true then tlC g a1 a2 else g)) := by
  rw [Bool.and_eq_true] at h
  refine Rn_ret ?_
  rw [blk_X4_tell_0, if_pos h.1, if_pos (show inB (g 1 0) 5 = true from h.2)]
  unfold tlB
  rcases pk_ix a1 (n := 4) (by decide) with q | q | ⟨j, h1, rfl⟩
  · rw [if_pos q, inB_lt (by decide) q]; rfl
  · rw [inB_ge (by decide) q, if_pos q]
    split <;> rfl
  · rw [inB_nI h1 (by decide), if_neg (nI_pos (by omega)), if_neg (nI_ge h1 (by decide))]
    by_cases c : a2 = 0
    · simp [c, b2i]; exact ⟨rfl, rfl⟩
    · cases hl : lawB (tn (g 1 0)) a2 <;> simp [c, b2i] <;> first | rfl | exact ⟨rfl, rfl⟩
theorem run_X4_told (E : Ex) (g : Sg) (a1 : Int32) (h : true = true) : Rn (T_X4_told E ev_X4_told) K_X4_told 0 [some (.inr (some 0)), some (.inl a1)] [] g (some (.inl (if inB a1 4 = true then g 6 (tn a1) else -1)), g) := by
  refine Rn_ret ?_
  rw [blk_X4_told_0]
  rcases pk_ix a1 (n := 4) (by decide) with q | q | ⟨j, h1, rfl⟩
  · rw [if_pos q, inB_lt (by decide) q]; rfl
  · rw [inB_ge (by decide) q, if_pos q]
    split <;> rfl
  · rw [inB_nI h1 (by decide), if_neg (nI_pos (by omega)), if_neg (nI_ge h1 (by decide))]; rfl
theorem run_X4_sort (E : Ex) (g : Sg) (a1 : Int32) (h : (gC g) = true) : Rn (T_X4_sort E ev_X4_sort) K_X4_sort 0 [some (.inr (some 0)), some (.inl a1)] [] g (some (.inl (if lawB (tn (g 1 0)) a1 = true then srtN (tn a1) else -1)), g) := by
  have hC : inB (g 1 0) 5 = true := h
  obtain ⟨C, hC5, e⟩ := (inB_iff (by decide)).mp hC
  cases hl : lawB (tn (g 1 0)) a1 with
  | false =>
    refine Rn_ret ?_
    rw [blk_X4_sort_0, if_pos hC, hl]; rfl
  | true =>
    have hl' := hl
    rw [e, tn_nI' (by omega)] at hl'
    obtain ⟨n, -, -, hn, rfl⟩ := law_nI hC5 hl'
    refine Rn_go (pc' := 17) (by rw [blk_X4_sort_0, if_pos hC, hl]; rfl) ?_
    refine Rn_loop (fun c => [some (.inr (some 0)), some (.inl (nI n)), some (.inl (nI (cnU n c))), some (.inl (nI (cnO n c))), some (.inl (nI c))]) (fun _ => g) 4 (fun c hc => ?_) (Rn_ret ?_)
    · have hd := D_lt n c
      rw [blk_X4_sort_17]
      simp (disch := omega) only [nI_leI, nI_ltI, nI_eq, tn_nI, tn_nI', inB_eq, decide_eq_true_eq, Bool.and_eq_true, decide_true, Bool.and_true, Bool.true_and, Bool.and_self, nI_add, pk_mul, fiv_eq, if_pos, if_neg, ↓reduceIte, b2i_0, and_self, and_true, true_and]
      by_cases h2 : D n c = 2
      · simp [h2, cnU, cnO, sm, ct1]
      · by_cases h3 : D n c ≤ 2
        · have h3' : ¬ 2 < D n c := by omega
          simp [h2, h3, h3', cnU, cnO, sm, ct1]
        · have h3' : 2 < D n c := by omega
          simp [h2, h3, h3', cnU, cnO, sm, ct1]
    · have hu : cnU n 4 ≤ 4 * 1 := sm_le (fun i _ => ct1_le _)
      have ho : cnO n 4 ≤ 4 * 1 := sm_le (fun i _ => ct1_le _)
      rw [blk_X4_sort_17, tn_nI' (by omega)]
      unfold srtN
      simp (disch := omega) only [nI_leI, nI_ltI, nI_eq, tn_nI, tn_nI', inB_eq, decide_eq_true_eq, Bool.and_eq_true, decide_true, Bool.and_true, Bool.true_and, Bool.and_self, nI_add, pk_mul, fiv_eq, if_pos, if_neg, ↓reduceIte, b2i_0, and_self, and_true, true_and]
      generalize cnU n 4 = u at *
      generalize cnO n 4 = w at *
      by_cases c1 : w ≤ 1
      · by_cases c2 : w = 1
        · simp [c2]; rfl
        · by_cases c3 : u ≤ 1
          · by_cases c4 : u = 1
            · have : w = 0 := by omega
              simp [c4, this]; rfl
            · have : w = 0 := by omega
              have : u = 0 := by omega
              simp [*]; rfl
          · have c3' : 1 < u := by omega
            have : w = 0 := by omega
            simp [c3, c3', this]; rfl
      · have c1' : 1 < w := by omega
        simp [c1, c1']; rfl
theorem run_X4_put (E : Ex) (g : Sg) (a1 a2 a3 a4 a5 a6 a7 : Int32) (h : (gH g) = true) : Rn (T_X4_put E ev_X4_put) K_X4_put 0 [some (.inr (some 0)), some (.inl a1), some (.inl a2), some (.inl a3), some (.inl a4), some (.inl a5), some (.inl a6), some (.inl a7)] [] g (some (.inl (b2i (putB a1 a2 a3 a4 a5 a6 a7))), (if putB a1 a2 a3 a4 a5 a6 a7 = true then putC g a1 a2 a3 a4 a5 a6 a7 else g)) := by
  have e4 : nI 4 = (4 : Int32) := rfl
  unfold putB
  cases h1 : inB a1 16 with
  | false =>
    refine Rn_ret ?_
    rw [blk_X4_put_0, h1]; rfl
  | true =>
  cases h2 : isI a2 0 4 with
  | false =>
    refine Rn_ret ?_
    rw [blk_X4_put_0, h1, e4]
    by_cases c1 : a2 < 0
    · simp [c1, b2i]; rfl
    · have c2 : 4 < a2 := Int32.not_le.mp fun c2 => by rw [isI_c.mpr ⟨c1, c2⟩] at h2; cases h2
      simp [c1, c2, b2i]; rfl
  | true =>
  obtain ⟨c1, c2⟩ := isI_c.mp h2
  have c2' : ¬ 4 < a2 := Int32.not_lt.mpr c2
  cases h3 : isI a3 0 4 with
  | false =>
    refine Rn_ret ?_
    rw [blk_X4_put_0, h1, e4]
    by_cases d1 : a3 < 0
    · simp [c1, c2', d1, b2i]; rfl
    · have d2 : ¬ a3 ≤ 4 := fun d2 => by rw [isI_c.mpr ⟨d1, d2⟩] at h3; cases h3
      simp [c1, c2', d1, d2, b2i]; rfl
  | true =>
  obtain ⟨d1, d2⟩ := isI_c.mp h3
  refine Rn_go (pc' := 27) (by rw [blk_X4_put_0, h1, e4]; simp only [c1, c2', d1, d2, b2i, if_true, if_false]; rfl) ?_
  cases f1 : (decide (a3 ≤ 0) || fitB a2 a4) with
  | false =>
    simp only [Bool.or_eq_false_iff, decide_eq_false_iff_not] at f1
    refine Rn_ret ?_
    rw [blk_X4_put_27, if_neg f1.1, f1.2]; rfl
  | true =>
  refine Rn_go (pc' := 40) (by
    rw [blk_X4_put_27]
    simp only [Bool.or_eq_true, decide_eq_true_eq] at f1
    rcases f1 with q | q
    · rw [if_pos q]
    · rw [q]; split <;> rfl) ?_
  cases f2 : (decide (a3 ≤ 1) || fitB a2 a5) with
  | false =>
    simp only [Bool.or_eq_false_iff, decide_eq_false_iff_not] at f2
    refine Rn_ret ?_
    rw [blk_X4_put_40, if_neg (show ¬ a3 ≤ nI 1 from f2.1), f2.2]; rfl
  | true =>
  refine Rn_go (pc' := 54) (by
    rw [blk_X4_put_40]
    simp only [Bool.or_eq_true, decide_eq_true_eq] at f2
    rcases f2 with q | q
    · rw [if_pos (show a3 ≤ nI 1 from q)]
    · rw [q]; split <;> rfl) ?_
  cases f3 : (decide (a3 ≤ 2) || fitB a2 a6) with
  | false =>
    simp only [Bool.or_eq_false_iff, decide_eq_false_iff_not] at f3
    refine Rn_ret ?_
    rw [blk_X4_put_54, if_neg (show ¬ a3 ≤ nI 2 from f3.1), f3.2]; rfl
  | true =>
  refine Rn_go (pc' := 68) (by
    rw [blk_X4_put_54]
    simp only [Bool.or_eq_true, decide_eq_true_eq] at f3
    rcases f3 with q | q
    · rw [if_pos (show a3 ≤ nI 2 from q)]
    · rw [q]; split <;> rfl) ?_
  cases f4 : (decide (a3 ≤ 3) || fitB a2 a7) with
  | false =>
    simp only [Bool.or_eq_false_iff, decide_eq_false_iff_not] at f4
    refine Rn_ret ?_
    rw [blk_X4_put_68, if_neg (show ¬ a3 ≤ nI 3 from f4.1), f4.2]; rfl
  | true =>
  refine Rn_go (pc' := 84) (by
    rw [blk_X4_put_68]
    simp only [Bool.or_eq_true, decide_eq_true_eq] at f4
    rcases f4 with q | q
    · rw [if_pos (show a3 ≤ nI 3 from q)]
    · rw [q]; split <;> rfl) ?_
  obtain ⟨s, hs, rfl⟩ := (inB_iff (by decide)).mp h1
  have k0 : inB (nI s * nI 4 + nI 0) 64 = true := by rw [pk_mul, nI_add]; exact inB_nI (by omega) (by decide)
  have k1 : inB (nI s * nI 4 + nI 1) 64 = true := by rw [pk_mul, nI_add]; exact inB_nI (by omega) (by decide)
  have k2 : inB (nI s * nI 4 + nI 2) 64 = true := by rw [pk_mul, nI_add]; exact inB_nI (by omega) (by decide)
  have k3 : inB (nI s * nI 4 + nI 3) 64 = true := by rw [pk_mul, nI_add]; exact inB_nI (by omega) (by decide)
  refine Rn_go (pc' := 118) (L' := [some (.inr (some 0)), some (.inl (nI s)), some (.inl a2), some (.inl a3), some (.inl a4), some (.inl a5), some (.inl a6), some (.inl a7)]) (st' := []) (g' := us (us (us (us (remC g) 2 (upd (remC g 2) s a2)) 3 (upd (remC g 3) s a3)) 4 (upd (remC g 4) s 1)) 5 (upd (remC g 5) (s * 4 + 0) (wr1 (if a3 ≤ 0 then 100 else a4)))) (by
    rw [blk_X4_put_84, if_pos h, h1, if_pos rfl, if_pos k0, if_pos k0, tn_nI' (by omega), pk_mul, nI_add, tn_nI (by omega)]
    by_cases q : a3 ≤ 0
    · rw [if_pos q, if_pos q]; rfl
    · rw [if_neg q, if_neg q]; rfl) ?_
  generalize hR : us (us (us (remC g) 2 (upd (remC g 2) s a2)) 3 (upd (remC g 3) s a3)) 4 (upd (remC g 4) s 1) = R
  refine Rn_go (pc' := 139) (L' := [some (.inr (some 0)), some (.inl (nI s)), some (.inl a2), some (.inl a3), some (.inl a4), some (.inl a5), some (.inl a6), some (.inl a7)]) (st' := []) (g' := us R 5 (upd (upd (remC g 5) (s * 4 + 0) (wr1 (if a3 ≤ 0 then 100 else a4))) (s * 4 + 1) (wr1 (if a3 ≤ 1 then 100 else a5)))) (by
    rw [blk_X4_put_118, if_pos k1, if_pos k1, pk_mul, nI_add, tn_nI (by omega), us_s, us_us, us_us]
    by_cases q : a3 ≤ 1
    · rw [if_pos (show a3 ≤ nI 1 from q), if_pos q]; rfl
    · rw [if_neg (show ¬ a3 ≤ nI 1 from q), if_neg q]) ?_
  refine Rn_go (pc' := 160) (L' := [some (.inr (some 0)), some (.inl (nI s)), some (.inl a2), some (.inl a3), some (.inl a4), some (.inl a5), some (.inl a6), some (.inl a7)]) (st' := []) (g' := us R 5 (upd (upd (upd (remC g 5) (s * 4 + 0) (wr1 (if a3 ≤ 0 then 100 else a4))) (s * 4 + 1) (wr1 (if a3 ≤ 1 then 100 else a5))) (s * 4 + 2) (wr1 (if a3 ≤ 2 then 100 else a6)))) (by
    rw [blk_X4_put_139, if_pos k2, if_pos k2, pk_mul, nI_add, tn_nI (by omega), us_s, us_us, us_us]
    by_cases q : a3 ≤ 2
    · rw [if_pos (show a3 ≤ nI 2 from q), if_pos q]; rfl
    · rw [if_neg (show ¬ a3 ≤ nI 2 from q), if_neg q]) ?_
  refine Rn_go (pc' := 181) (L' := []) (st' := []) (g' := us R 5 (wr4 (remC g 5) s a3 a4 a5 a6 a7)) (by
    rw [blk_X4_put_160, if_pos k3, if_pos k3, pk_mul, nI_add, tn_nI (by omega), us_s, us_us, us_us]
    unfold wr4
    by_cases q : a3 ≤ 3
    · rw [if_pos (show a3 ≤ nI 3 from q), if_pos q]; rfl
    · rw [if_neg (show ¬ a3 ≤ nI 3 from q), if_neg q]) ?_
  refine Rn_ret ?_
  rw [blk_X4_put_181]
  simp only [Bool.and_self, if_true]
  unfold putC
  rw [tn_nI' (by omega), hR]
  rfl
