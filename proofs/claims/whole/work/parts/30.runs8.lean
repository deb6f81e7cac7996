/-! RUNS: the model's calls -/
theorem us_comm (g : Sg) {a b : Nat} (f h : Nat → Int32) (hab : ¬ a = b) : us (us g a f) b h = us (us g b h) a f := by
  funext k
  by_cases k1 : k = a
  · subst k1
    rw [us_n _ hab, us_s, us_s]
  · by_cases k2 : k = b
    · subst k2
      rw [us_s, us_n _ k1, us_s]
    · rw [us_n _ k2, us_n _ k1, us_n _ k1, us_n _ k2]
theorem upd_upd (f : Nat → Int32) (k : Nat) (x y : Int32) : upd (upd f k x) k y = upd f k y := by
  funext j
  unfold upd
  by_cases h : j = k
  · rw [if_pos h, if_pos h]
  · rw [if_neg h, if_neg h, if_neg h]
theorem isI_in {n : Nat} (h1 : 1 ≤ n) (hn : n < 2 ^ 31) (x : Int32) : isI x (nI 0) (nI (n - 1)) = inB x n := by
  unfold isI
  rcases pk_ix x (n := n) hn with q | q | ⟨j, hj, rfl⟩
  · rw [inB_lt hn q]
    have : ¬ nI 0 ≤ x := Int32.not_le.mpr q
    simp [this]
  · rw [inB_ge hn q]
    have : ¬ x ≤ nI (n - 1) := fun z => absurd (Int32.le_trans q z) (nI_ge (by omega) (by omega))
    simp [this]
  · simp (disch := omega) only [nI_leI, nI_ltI, nI_eq, tn_nI, tn_nI', inB_eq, decide_eq_true_eq, Bool.and_eq_true, decide_true, Bool.and_true, Bool.true_and, Bool.and_self, nI_add, pk_mul, fiv_eq, if_pos, if_neg, ↓reduceIte, b2i_0, and_self, and_true, true_and]
    have : j ≤ n - 1 := by omega
    simp [this, hj]
theorem colM_in {g : Sg} {C : Nat} (hC : C < 5) (e : g 52 128 = nI C) (x : Int32) : colM g x = inB x C := by
  unfold colM
  rw [e]
  by_cases h : C = 0
  · subst h
    unfold isI
    cases hb : inB x 0 with
    | true =>
      obtain ⟨j, hj, -⟩ := (inB_iff (by decide)).mp hb
      omega
    | false =>
      have : (nI 0 - 1 : Int32) = -1 := by decide
      rw [this]
      by_cases a : 0 ≤ x
      · have : ¬ x ≤ -1 := fun z => absurd (Int32.le_trans a z) (by decide)
        simp [this]
      · simp [a]
  · have : (nI C - 1 : Int32) = nI (C - 1) := pk_sub (a := C) (b := 1) (by omega)
    rw [this]
    exact isI_in (by omega) (by omega) x
theorem cop_step (f h : Nat → Int32) (o n : Nat) : upd (copF f h o n) (o + n) (h n) = copF f h o (n + 1) := by
  funext j
  simp only [upd, copF]
  by_cases k : j = o + n
  · subst k
    rw [if_pos rfl, if_pos (by omega)]
    congr 1
    omega
  · rw [if_neg k]
    by_cases k2 : o ≤ j ∧ j < o + n
    · rw [if_pos k2, if_pos (by omega)]
    · rw [if_neg k2, if_neg (by omega)]
theorem cop_0 (f h : Nat → Int32) (o : Nat) : copF f h o 0 = f := by
  funext j
  simp only [copF]
  rw [if_neg (by omega)]
theorem keep_52 (E : Ex) (g : Sg) (k : Nat) (hk : k ≤ 5) (e : g 51 2 = nI k) : Rn (T_X5_keep E ev_X5_keep) K_X5_keep 52 [some (.inr (some 51)), some (.inl (nI 0))] [] g (none, us (us g 53 (copF (g 53) (g 52) (133 * k) 133)) 51 (upd (g 51) 2 (nI (k + 1)))) := by
  have key := Rn_loop (T := T_X5_keep E ev_X5_keep) (K := K_X5_keep) (pc := 52) (o := (none, us (us g 53 (copF (g 53) (g 52) (133 * k) 133)) 51 (upd (g 51) 2 (nI (k + 1))))) (fun j => [some (.inr (some 51)), some (.inl (nI j))]) (fun j => us g 53 (copF (g 53) (g 52) (133 * k) j)) 133 (fun j hj => ?_) (Rn_ret ?_)
  · rw [cop_0, us_id] at key
    exact key
  · rw [blk_X5_keep_52]
    have r1 : ∀ f, us g 53 f 51 2 = g 51 2 := fun f => rfl
    have r2 : ∀ f, us g 53 f 52 = g 52 := fun f => rfl
    rw [r1, r2, e]
    simp (disch := omega) only [nI_leI, nI_ltI, nI_eq, tn_nI, tn_nI', inB_eq, decide_eq_true_eq, Bool.and_eq_true, decide_true, Bool.and_true, Bool.true_and, Bool.and_self, nI_add, pk_mul, fiv_eq, if_pos, if_neg, ↓reduceIte, b2i_0, and_self, and_true, true_and]
    rw [us_us, us_s, cop_step]
  · rw [blk_X5_keep_52, if_pos (nI_le (by omega) (by decide))]
    have r1 : ∀ f, us g 53 f 51 = g 51 := fun f => rfl
    rw [r1, e, nI_add]
theorem run_X5_keep (E : Ex) (g : Sg) (h : (gK g) = true) : Rn (T_X5_keep E ev_X5_keep) K_X5_keep 0 [some (.inr (some 51))] [] g (none, keepM g) := by
  obtain ⟨k, hk, e⟩ := (inB_iff (by decide)).mp h
  by_cases h6 : k = 6
  · subst h6
    have e6 : g 51 2 = 6 := e
    refine Rn_go (by rw [blk_X5_keep_0, if_pos e]) ?_
    have e0 : us g 53 (shF (g 53) 0) = g := by
      have : shF (g 53) 0 = g 53 := by funext j; simp [shF]
      rw [this, us_id]
    have key := Rn_loop (T := T_X5_keep E ev_X5_keep) (K := K_X5_keep) (pc := 11) (o := (none, keepM g)) (fun j => [some (.inr (some 51)), some (.inl (nI j))]) (fun j => us g 53 (shF (g 53) j)) 665 (fun j hj => ?_) ?_
    · rw [e0] at key
      exact key
    · rw [blk_X5_keep_11]
      simp (disch := omega) only [nI_leI, nI_ltI, nI_eq, tn_nI, tn_nI', inB_eq, decide_eq_true_eq, Bool.and_eq_true, decide_true, Bool.and_true, Bool.true_and, Bool.and_self, nI_add, pk_mul, fiv_eq, if_pos, if_neg, ↓reduceIte, b2i_0, and_self, and_true, true_and]
      rw [us_us, us_s]
      congr 7
      funext i
      simp only [upd, shF]
      by_cases k1 : i = j
      · subst k1
        rw [if_pos rfl, if_neg (by omega), if_pos (by omega)]
      · rw [if_neg k1]
        by_cases k2 : i < j
        · rw [if_pos k2, if_pos (by omega)]
        · rw [if_neg k2, if_neg (by omega)]
    · refine Rn_go (by rw [blk_X5_keep_11, if_pos (nI_le (by omega) (by decide))]) ?_
      have r1 : us g 53 (shF (g 53) 665) 51 = g 51 := rfl
      have e5 : g 51 2 - nI 1 = nI 5 := by rw [e]; decide
      rw [r1, e5]
      have h52 := keep_52 E (us (us g 53 (shF (g 53) 665)) 51 (upd (g 51) 2 (nI 5))) 5 (by decide) rfl
      have e7 : keepM g = us (us (us (us g 53 (shF (g 53) 665)) 51 (upd (g 51) 2 (nI 5))) 53 (copF (shF (g 53) 665) (g 52) (133 * 5) 133)) 51 (upd (upd (g 51) 2 (nI 5)) 2 (nI (5 + 1))) := by
        rw [us_comm _ _ _ (by decide), us_us, us_comm _ _ _ (by decide), us_us, upd_upd]
        unfold keepM kpF kpN
        rw [if_pos e6, if_pos e6]
      rw [e7]
      exact h52
  · have e6 : ¬ g 51 2 = 6 := by
      rw [e]
      intro z
      exact h6 ((nI_eq (b := 6) (by omega) (by decide)).mp z)
    refine Rn_go (by rw [blk_X5_keep_0, if_neg (show ¬ g 51 2 = nI 6 from e6)]) ?_
    have e7 : keepM g = us (us g 53 (copF (g 53) (g 52) (133 * k) 133)) 51 (upd (g 51) 2 (nI (k + 1))) := by
      unfold keepM kpF kpN
      rw [if_neg e6, if_neg e6, e, tn_nI' (by omega)]
    rw [e7]
    exact keep_52 E g k (by omega) e
theorem run_X5_undo (E : Ex) (g : Sg) (h : (gK g) = true) : Rn (T_X5_undo E ev_X5_undo) K_X5_undo 0 [some (.inr (some 51))] [] g (some (.inl (b2i (!decide (g 51 2 = 0)))), (if g 51 2 = 0 then g else undM g)) := by
  obtain ⟨k, hk, e⟩ := (inB_iff (by decide)).mp h
  by_cases k0 : g 51 2 = 0
  · refine Rn_ret ?_
    rw [blk_X5_undo_0, if_pos k0, if_pos k0]
    simp [k0]; rfl
  · have hk0 : ¬ k = 0 := fun z => k0 (by rw [e, z]; rfl)
    refine Rn_go (by rw [blk_X5_undo_0, if_neg k0]) ?_
    rw [if_neg k0]
    have e1 : b2i (!decide (g 51 2 = 0)) = nI 1 := by simp [k0]; rfl
    rw [e1]
    unfold undM
    rw [e, tn_nI' (by omega), pk_sub (show 1 ≤ k by omega)]
    have key := Rn_loop (T := T_X5_undo E ev_X5_undo) (K := K_X5_undo) (pc := 21) (o := (some (.inl (nI 1)), us (us g 51 (upd (g 51) 2 (nI (k - 1)))) 52 (copF (g 52) (fun j => g 53 (133 * (k - 1) + j)) 0 133))) (fun j => [some (.inr (some 51)), some (.inl (nI j))]) (fun j => us (us g 51 (upd (g 51) 2 (nI (k - 1)))) 52 (copF (g 52) (fun j => g 53 (133 * (k - 1) + j)) 0 j)) 133 (fun j hj => ?_) (Rn_ret ?_)
    · rw [cop_0] at key
      have : us (us g 51 (upd (g 51) 2 (nI (k - 1)))) 52 (g 52) = us g 51 (upd (g 51) 2 (nI (k - 1))) := us_id (us g 51 (upd (g 51) 2 (nI (k - 1)))) 52
      rw [this] at key
      exact key
    · rw [blk_X5_undo_21]
      have r1 : ∀ f, us (us g 51 (upd (g 51) 2 (nI (k - 1)))) 52 f 51 2 = nI (k - 1) := fun f => rfl
      have r2 : ∀ f, us (us g 51 (upd (g 51) 2 (nI (k - 1)))) 52 f 53 = g 53 := fun f => rfl
      rw [r1, r2]
      simp (disch := omega) only [nI_leI, nI_ltI, nI_eq, tn_nI, tn_nI', inB_eq, decide_eq_true_eq, Bool.and_eq_true, decide_true, Bool.and_true, Bool.true_and, Bool.and_self, nI_add, pk_mul, fiv_eq, if_pos, if_neg, ↓reduceIte, b2i_0, and_self, and_true, true_and]
      rw [us_us, us_s]
      have := cop_step (g 52) (fun j => g 53 (133 * (k - 1) + j)) 0 j
      rw [Nat.zero_add] at this
      rw [this]
    · rw [blk_X5_undo_21, if_pos (nI_le (by omega) (by decide))]
theorem run_X5_table (E : Ex) (g : Sg) (a1 : Int32) (h : (gK g) = true) : Rn (T_X5_table E ev_X5_table) K_X5_table 0 [some (.inr (some 51)), some (.inl a1)] [] g (some (.inl (b2i (isI a1 1 4))), (if isI a1 1 4 = true then tabM g a1 else g)) := by
  have e14 : isI a1 (nI 1) (nI 4) = isI a1 1 4 := rfl
  cases hb : isI a1 1 4 with
  | false =>
    refine Rn_ret ?_
    rw [blk_X5_table_0, e14, hb]; rfl
  | true =>
    refine Rn_go (by rw [blk_X5_table_0, e14, hb, h]; rfl) ?_
    rw [if_pos rfl]
    unfold tabM
    generalize keepM g = g1
    have e0 : us g1 52 (filF (g1 52) 0 0) = g1 := by
      have : filF (g1 52) 0 0 = g1 52 := by funext j; simp [filF]
      rw [this, us_id]
    have key := Rn_loop (T := T_X5_table E ev_X5_table) (K := K_X5_table) (pc := 17) (o := (some (.inl (b2i true)), us g1 52 (upd (filF (g1 52) 133 0) 128 a1))) (fun j => [some (.inr (some 51)), some (.inl a1), some (.inl (nI j))]) (fun j => us g1 52 (filF (g1 52) j 0)) 133 (fun j hj => ?_) (Rn_ret ?_)
    · rw [e0] at key
      exact key
    · rw [blk_X5_table_17]
      simp (disch := omega) only [nI_leI, nI_ltI, nI_eq, tn_nI, tn_nI', inB_eq, decide_eq_true_eq, Bool.and_eq_true, decide_true, Bool.and_true, Bool.true_and, Bool.and_self, nI_add, pk_mul, fiv_eq, if_pos, if_neg, ↓reduceIte, b2i_0, and_self, and_true, true_and]
      rw [us_us, us_s]
      have := fil_step (g1 52) j 0
      rw [← this]
      rfl
    · rw [blk_X5_table_17, if_pos (nI_le (by omega) (by decide)), us_us, us_s]
      rfl
theorem run_X5_strike (E : Ex) (g : Sg) (a1 : Int32) (h : (gK g) = true) : Rn (T_X5_strike E ev_X5_strike) K_X5_strike 0 [some (.inr (some 51)), some (.inl a1)] [] g (some (.inl (b2i (rowM g a1))), (if rowM g a1 = true then strM g a1 else g)) := by
  refine Rn_ret ?_
  rw [blk_X5_strike_0, if_pos h]
  change (if b2i (rowM g a1) = 0 then _ else _) = _
  cases hr : rowM g a1 with
  | false => rfl
  | true =>
    unfold rowM at hr
    rw [Bool.and_eq_true] at hr
    obtain ⟨s, hs, rfl⟩ := (inB_iff (by decide)).mp hr.1
    unfold strM
    simp (disch := omega) only [nI_leI, nI_ltI, nI_eq, tn_nI, tn_nI', inB_eq, decide_eq_true_eq, Bool.and_eq_true, decide_true, Bool.and_true, Bool.true_and, Bool.and_self, nI_add, pk_mul, fiv_eq, if_pos, if_neg, ↓reduceIte, b2i_0, and_self, and_true, true_and]
    simp [b2i]
    exact ⟨rfl, rfl⟩
theorem run_X5_price (E : Ex) (g : Sg) (a1 a2 : Int32) (h : (gK g) = true) : Rn (T_X5_price E ev_X5_price) K_X5_price 0 [some (.inr (some 51)), some (.inl a1), some (.inl a2)] [] g (some (.inl (b2i (rowM g a1 && isI a2 0 99))), (if (rowM g a1 && isI a2 0 99) = true then priM g a1 a2 else g)) := by
  refine Rn_ret ?_
  rw [blk_X5_price_0, if_pos h]
  change (if b2i (rowM g a1) = 0 then _ else if b2i (isI a2 0 99) = 0 then _ else _) = _
  cases hr : rowM g a1 with
  | false => rfl
  | true =>
    cases hp : isI a2 0 99 with
    | false => rfl
    | true =>
      unfold rowM at hr
      rw [Bool.and_eq_true] at hr
      obtain ⟨s, hs, rfl⟩ := (inB_iff (by decide)).mp hr.1
      unfold priM
      simp (disch := omega) only [nI_leI, nI_ltI, nI_eq, tn_nI, tn_nI', inB_eq, decide_eq_true_eq, Bool.and_eq_true, decide_true, Bool.and_true, Bool.true_and, Bool.and_self, nI_add, pk_mul, fiv_eq, if_pos, if_neg, ↓reduceIte, b2i_0, and_self, and_true, true_and]
      simp [b2i]
      rfl
theorem run_X5_change (E : Ex) (g : Sg) (a1 a2 a3 : Int32) (h : (gK g && gM g) = true) : Rn (T_X5_change E ev_X5_change) K_X5_change 0 [some (.inr (some 51)), some (.inl a1), some (.inl a2), some (.inl a3)] [] g (some (.inl (b2i (chM g a1 a2 a3))), (if chM g a1 a2 a3 = true then chgM g a1 a2 a3 else g)) := by
  rw [Bool.and_eq_true] at h
  obtain ⟨C, hC5, e⟩ := (inB_iff (by decide)).mp h.2
  refine Rn_ret ?_
  rw [blk_X5_change_0, if_pos h.1]
  change (if b2i (rowM g a1) = 0 then _ else if b2i (colM g a2) = 0 then _ else _) = _
  unfold chM
  cases hr : rowM g a1 with
  | false => rfl
  | true =>
    cases hc : colM g a2 with
    | false => rfl
    | true =>
      rw [colM_in hC5 e] at hc
      obtain ⟨j, hj, rfl⟩ := (inB_iff (by omega)).mp hc
      unfold rowM at hr
      rw [Bool.and_eq_true] at hr
      obtain ⟨s, hs, rfl⟩ := (inB_iff (by decide)).mp hr.1
      simp (disch := omega) only [nI_leI, nI_ltI, nI_eq, tn_nI, tn_nI', inB_eq, decide_eq_true_eq, Bool.and_eq_true, decide_true, Bool.and_true, Bool.true_and, Bool.and_self, nI_add, pk_mul, fiv_eq, if_pos, if_neg, ↓reduceIte, b2i_0, and_self, and_true, true_and]
      by_cases c1 : g 52 (8 * s + 2) ≤ nI j
      · simp [c1, Int32.not_lt.mpr c1, b2i]; rfl
      · have c1' : nI j < g 52 (8 * s + 2) := Int32.not_le.mp c1
        cases hf : fitB (g 52 (8 * s + 1)) a3 with
        | false => simp [c1, c1', b2i]; rfl
        | true =>
          unfold chgM wr1
          rw [tn_nI' (by omega), tn_nI' (by omega)]
          by_cases c2 : a3 = 100
          · simp [c1, c1', b2i, c2, if_pos (show (100 : Int32) = nI 100 from rfl)]
            exact ⟨rfl, rfl⟩
          · have c3 : ¬ a3 = nI 100 := c2
            simp [c1, c1', b2i, c2, c3]
            rfl
theorem run_X5_at (E : Ex) (g : Sg) (a1 a2 : Int32) (h : (gM g) = true) : Rn (T_X5_at E ev_X5_at) K_X5_at 0 [some (.inr (some 51)), some (.inl a1), some (.inl a2)] [] g (some (.inl (atM g a1 a2)), g) := by
  obtain ⟨C, hC5, e⟩ := (inB_iff (by decide)).mp h
  refine Rn_ret ?_
  rw [blk_X5_at_0]
  change (if b2i (rowM g a1) = 0 then _ else if b2i (colM g a2) = 0 then _ else _) = _
  unfold atM
  cases hr : rowM g a1 with
  | false => rfl
  | true =>
    cases hc : colM g a2 with
    | false => rfl
    | true =>
      rw [colM_in hC5 e] at hc
      obtain ⟨j, hj, rfl⟩ := (inB_iff (by omega)).mp hc
      unfold rowM at hr
      rw [Bool.and_eq_true] at hr
      obtain ⟨s, hs, rfl⟩ := (inB_iff (by decide)).mp hr.1
      simp (disch := omega) only [nI_leI, nI_ltI, nI_eq, tn_nI, tn_nI', inB_eq, decide_eq_true_eq, Bool.and_eq_true, decide_true, Bool.and_true, Bool.true_and, Bool.and_self, nI_add, pk_mul, fiv_eq, if_pos, if_neg, ↓reduceIte, b2i_0, and_self, and_true, true_and]
      simp [b2i]
theorem run_X5_row (E : Ex) (g : Sg) (a1 a2 : Int32) (h : true = true) : Rn (T_X5_row E ev_X5_row) K_X5_row 0 [some (.inr (some 51)), some (.inl a1), some (.inl a2)] [] g (some (.inl (rwvM g a1 a2)), g) := by
  refine Rn_ret ?_
  rw [blk_X5_row_0, isI_inB]
  unfold rwvM
  have e1 : nI 1 = (1 : Int32) := rfl
  have e2 : nI 2 = (2 : Int32) := rfl
  have e13 : isI a2 (nI 1) (nI 3) = isI a2 1 3 := rfl
  rw [e13]
  cases hb : inB a1 16 with
  | false => rfl
  | true =>
    obtain ⟨s, hs, rfl⟩ := (inB_iff (by decide)).mp hb
    simp (disch := omega) only [nI_leI, nI_ltI, nI_eq, tn_nI, tn_nI', inB_eq, decide_eq_true_eq, Bool.and_eq_true, decide_true, Bool.and_true, Bool.true_and, Bool.and_self, nI_add, pk_mul, fiv_eq, if_pos, if_neg, ↓reduceIte, b2i_0, and_self, and_true, true_and]
    by_cases c0 : a2 = 0
    · simp [b2i, c0]
    · cases hr : rwM g s with
      | false => simp [b2i, c0]
      | true =>
        cases hw : isI a2 1 3 with
        | false => simp [b2i, c0]
        | true =>
          rw [e1, e2]
          by_cases c1 : a2 = 1
          · simp [b2i, c1]
          · by_cases c2 : a2 = 2
            · simp [b2i, c2]
            · simp [b2i, c0, c1, c2]
theorem run_X5_between (E : Ex) (g : Sg) (a1 a2 : Int32) (h : (gM g) = true) : Rn (T_X5_between E ev_X5_between) K_X5_between 0 [some (.inr (some 51)), some (.inl a1), some (.inl a2)] [] g (some (.inl (betM g a1 a2)), g) := by
  refine Rn_ret ?_
  rw [blk_X5_between_0]
  change (if b2i (rowM g a1) = 0 then _ else if b2i (rowM g a2) = 0 then _ else _) = _
  unfold betM
  cases hr : rowM g a1 with
  | false => rfl
  | true =>
    cases hc : rowM g a2 with
    | false => rfl
    | true =>
      unfold rowM at hr hc
      rw [Bool.and_eq_true] at hr hc
      have hC : inB (g 52 128) 5 = true := h
      by_cases c0 : a1 = a2
      · simp [b2i, c0]
      · simp [c0, b2i, hr.1, hc.1, hC]
theorem run_X5_kinds (E : Ex) (g : Sg) (h : (gM g) = true) : Rn (T_X5_kinds E ev_X5_kinds) K_X5_kinds 0 [some (.inr (some 51))] [] g (some (.inl (nI (sm (fun b => ct1 (decide (0 < cntM g 54 b))) 625))), cntM g) := by
  have hC : inB (g 52 128) 5 = true := h
  refine Rn_go (by rw [blk_X5_kinds_0, if_pos hC]) ?_
  change Rn (T_X5_kinds E ev_X5_kinds) K_X5_kinds 8 _ [] (cntM g) _
  refine Rn_loop (fun b => [some (.inr (some 51)), some (.inl (nI (sm (fun b => ct1 (decide (0 < cntM g 54 b))) b))), some (.inl (nI b))]) (fun _ => cntM g) 625 (fun b hb => ?_) (Rn_ret ?_)
  · rw [blk_X5_kinds_8]
    simp (disch := omega) only [nI_leI, nI_ltI, nI_eq, tn_nI, tn_nI', inB_eq, decide_eq_true_eq, Bool.and_eq_true, decide_true, Bool.and_true, Bool.true_and, Bool.and_self, nI_add, pk_mul, fiv_eq, if_pos, if_neg, ↓reduceIte, b2i_0, and_self, and_true, true_and]
    by_cases h0 : cntM g 54 b ≤ 0
    · simp [sm, h0, Int32.not_lt.mpr h0, ct1]
    · simp [sm, h0, Int32.not_le.mp h0, ct1]
  · rw [blk_X5_kinds_8, if_pos (nI_le (by omega) (by decide))]
theorem run_X5_pairs (E : Ex) (g : Sg) (a1 : Int32) (h : (gM g) = true) : Rn (T_X5_pairs E ev_X5_pairs) K_X5_pairs 0 [some (.inr (some 51)), some (.inl a1)] [] g (some (.inl (if prM g a1 = true then cntM g 54 (tn a1) else -1)), (if prM g a1 = true then cntM g else g)) := by
  have hC : inB (g 52 128) 5 = true := h
  obtain ⟨C, hC5, e⟩ := (inB_iff (by decide)).mp hC
  have hp := pow5_b hC5
  have hb0 := blk_X5_pairs_0 E g a1
  rw [if_pos hC, e, tn_nI' (by omega), pk_sub hp.1, isI_in hp.1 (by omega)] at hb0
  unfold prM
  rw [e, tn_nI' (by omega)]
  cases hb : inB a1 (5 ^ C) with
  | false =>
    refine Rn_ret ?_
    rw [hb0, hb]; rfl
  | true =>
    obtain ⟨n, hn, rfl⟩ := (inB_iff (by omega)).mp hb
    refine Rn_go (by rw [hb0, hb]; rfl) ?_
    rw [tn_nI' (by omega)]
    refine Rn_loopE (fun c => !decide (D n c = 0)) (fun c => [some (.inr (some 51)), some (.inl (nI n)), some (.inl (nI c))]) (fun _ => g) C (fun c hc hp => ?_) (fun c hc hp _ => Rn_ret ?_) (fun hp => Rn_ret ?_)
    · have hd := D_lt n c
      rw [blk_X5_pairs_18, e]
      simp only [← nI_0]
      simp only [Bool.not_eq_true', decide_eq_false_iff_not] at hp
      simp (disch := omega) only [nI_leI, nI_ltI, nI_eq, tn_nI, tn_nI', inB_eq, decide_eq_true_eq, Bool.and_eq_true, decide_true, Bool.and_true, Bool.true_and, Bool.and_self, nI_add, pk_mul, fiv_eq, if_pos, if_neg, ↓reduceIte, b2i_0, and_self, and_true, true_and]
    · have hd := D_lt n c
      have hp' := hp
      rw [blk_X5_pairs_18, e]
      simp only [← nI_0]
      simp only [Bool.not_eq_false', decide_eq_true_eq] at hp
      simp (disch := omega) only [nI_leI, nI_ltI, nI_eq, tn_nI, tn_nI', inB_eq, decide_eq_true_eq, Bool.and_eq_true, decide_true, Bool.and_true, Bool.true_and, Bool.and_self, nI_add, pk_mul, fiv_eq, if_pos, if_neg, ↓reduceIte, b2i_0, and_self, and_true, true_and, hp]
      rw [al_f hc hp']
      simp
    · rw [blk_X5_pairs_18, if_pos hC, e]
      simp (disch := omega) only [nI_leI, nI_ltI, nI_eq, tn_nI, tn_nI', inB_eq, decide_eq_true_eq, Bool.and_eq_true, decide_true, Bool.and_true, Bool.true_and, Bool.and_self, nI_add, pk_mul, fiv_eq, if_pos, if_neg, ↓reduceIte, b2i_0, and_self, and_true, true_and]
      rw [al_iff.mpr hp]
      unfold cntM
      rw [e, tn_nI' (by omega)]
      simp
theorem run_X5_least (E : Ex) (g : Sg) (a1 : Int32) (h : (gM g) = true) : Rn (T_X5_least E ev_X5_least) K_X5_least 0 [some (.inr (some 51)), some (.inl a1)] [] g (some (.inl (if lawB (tn (g 52 128)) a1 = true then nI (min (tn a1) (tun (tn a1))) else -1)), g) := by
  refine Rn_ret ?_
  have hC : inB (g 52 128) 5 = true := h
  obtain ⟨C, hC5, e⟩ := (inB_iff (by decide)).mp hC
  rw [blk_X5_least_0, if_pos hC]
  cases hl : lawB (tn (g 52 128)) a1 with
  | false => rfl
  | true =>
    have hl' := hl
    rw [e, tn_nI' (by omega)] at hl'
    obtain ⟨n, -, -, hn, rfl⟩ := law_nI hC5 hl'
    rw [inB_nI hn (by decide)]
    rfl
theorem run_X5_broken (E : Ex) (g : Sg) (a1 : Int32) (h : (gM g) = true) : Rn (T_X5_broken E ev_X5_broken) K_X5_broken 0 [some (.inr (some 51)), some (.inl a1)] [] g (some (.inl (if lawB (tn (g 52 128)) a1 = true then nI (brN (tn (g 52 128)) (rwM g) (nmM g) (tn a1)) else -1)), g) := by
  refine Rn_ret ?_
  have hC : inB (g 52 128) 5 = true := h
  obtain ⟨C, hC5, e⟩ := (inB_iff (by decide)).mp hC
  rw [blk_X5_broken_0, if_pos hC]
  cases hl : lawB (tn (g 52 128)) a1 with
  | false => rfl
  | true =>
    have hl' := hl
    rw [e, tn_nI' (by omega)] at hl'
    obtain ⟨n, -, -, hn, rfl⟩ := law_nI hC5 hl'
    rw [inB_nI hn (by decide), hC]
    rfl
theorem run_X5_said (E : Ex) (g : Sg) (a1 a2 : Int32) (h : (gM g) = true) : Rn (T_X5_said E ev_X5_said) K_X5_said 0 [some (.inr (some 51)), some (.inl a1), some (.inl a2)] [] g (some (.inl (if (lawB (tn (g 52 128)) a1 && lawB (tn (g 52 128)) a2) = true then b2i (isd (tn a1) (tn a2)) else -1)), g) := by
  refine Rn_ret ?_
  have hC : inB (g 52 128) 5 = true := h
  obtain ⟨C, hC5, e⟩ := (inB_iff (by decide)).mp hC
  rw [blk_X5_said_0, if_pos hC, if_pos hC]
  cases hl : lawB (tn (g 52 128)) a1 with
  | false => rfl
  | true =>
    cases hl2 : lawB (tn (g 52 128)) a2 with
    | false => rfl
    | true =>
      rw [e, tn_nI' (by omega)] at hl hl2
      obtain ⟨n, -, -, hn, rfl⟩ := law_nI hC5 hl
      obtain ⟨k, -, -, hk, rfl⟩ := law_nI hC5 hl2
      simp (disch := omega) only [nI_leI, nI_ltI, nI_eq, tn_nI, tn_nI', inB_eq, decide_eq_true_eq, Bool.and_eq_true, decide_true, Bool.and_true, Bool.true_and, Bool.and_self, nI_add, pk_mul, fiv_eq, if_pos, if_neg, ↓reduceIte, b2i_0, and_self, and_true, true_and]
      cases isd n k <;> simp [b2i] <;> rfl
theorem run_X5_tell (E : Ex) (g : Sg) (a1 a2 : Int32) (h : (gK g && gM g) = true) : Rn (T_X5_tell E ev_X5_tell) K_X5_tell 0 [some (.inr (some 51)), some (.inl a1), some (.inl a2)] [] g (some (.inl (b2i (tlB (tn (g 52 128)) a1 a2))), (if tlB (tn (g 52 128)) a1 a2 = true then tlM g a1 a2 else g)) := by
  rw [Bool.and_eq_true] at h
  refine Rn_ret ?_
  have i3 : isI a1 (nI 0) (nI 3) = inB a1 4 := isI_in (n := 4) (by decide) (by decide) a1
  rw [blk_X5_tell_0, if_pos h.1, if_pos (show inB (g 52 128) 5 = true from h.2), i3]
  unfold tlB
  cases hi : inB a1 4 with
  | false => rfl
  | true =>
    obtain ⟨j, hj, rfl⟩ := (inB_iff (by decide)).mp hi
    unfold tlM
    simp (disch := omega) only [nI_leI, nI_ltI, nI_eq, tn_nI, tn_nI', inB_eq, decide_eq_true_eq, Bool.and_eq_true, decide_true, Bool.and_true, Bool.true_and, Bool.and_self, nI_add, pk_mul, fiv_eq, if_pos, if_neg, ↓reduceIte, b2i_0, and_self, and_true, true_and]
    by_cases c : a2 = 0
    · simp [c, b2i]; rfl
    · cases hl : lawB (tn (g 52 128)) a2 <;> simp [c, b2i] <;> rfl
theorem run_X5_told (E : Ex) (g : Sg) (a1 : Int32) (h : true = true) : Rn (T_X5_told E ev_X5_told) K_X5_told 0 [some (.inr (some 51)), some (.inl a1)] [] g (some (.inl (if inB a1 4 = true then g 52 (129 + tn a1) else -1)), g) := by
  refine Rn_ret ?_
  have i3 : isI a1 (nI 0) (nI 3) = inB a1 4 := isI_in (n := 4) (by decide) (by decide) a1
  rw [blk_X5_told_0, i3]
  cases hi : inB a1 4 with
  | false => rfl
  | true =>
    obtain ⟨j, hj, rfl⟩ := (inB_iff (by decide)).mp hi
    simp (disch := omega) only [nI_leI, nI_ltI, nI_eq, tn_nI, tn_nI', inB_eq, decide_eq_true_eq, Bool.and_eq_true, decide_true, Bool.and_true, Bool.true_and, Bool.and_self, nI_add, pk_mul, fiv_eq, if_pos, if_neg, ↓reduceIte, b2i_0, and_self, and_true, true_and]
    simp [b2i]
theorem run_X5_breaker (E : Ex) (g : Sg) (a1 a2 a3 : Int32) (h : (gM g) = true) : Rn (T_X5_breaker E ev_X5_breaker) K_X5_breaker 0 [some (.inr (some 51)), some (.inl a1), some (.inl a2), some (.inl a3)] [] g (some (.inl (if bkB (tn (g 52 128)) a1 a2 a3 = true then pickV a3 (fou (fun s t => brB (tn (g 52 128)) (rwM g) (nmM g) (tn a1) s t) 16 0 (tn a2)) else -1)), g) := by
  have hC : inB (g 52 128) 5 = true := h
  obtain ⟨C, hC5, e⟩ := (inB_iff (by decide)).mp hC
  have e01 : isI a3 (nI 0) (nI 1) = isI a3 0 1 := rfl
  unfold bkB
  cases hl : lawB (tn (g 52 128)) a1 with
  | false =>
    refine Rn_ret ?_
    rw [blk_X5_breaker_0, if_pos hC, hl]; rfl
  | true =>
  cases hw : isI a3 0 1 with
  | false =>
    refine Rn_ret ?_
    rw [blk_X5_breaker_0, if_pos hC, hl, e01, hw]
    simp [b2i]
  | true =>
  by_cases k0 : 0 ≤ a2
  · obtain ⟨k, hk, rfl⟩ := ge0_nI k0
    have hl' := hl
    rw [e, tn_nI' (by omega)] at hl'
    obtain ⟨n, -, -, hn, rfl⟩ := law_nI hC5 hl'
    refine Rn_go (pc' := 29) (by rw [blk_X5_breaker_0, if_pos hC, hl, e01, hw, if_pos k0]; rfl) ?_
    simp only [k0, decide_true, Bool.and_self, if_true]
    rw [tn_nI' (by omega), tn_nI' (by omega), e, tn_nI' (by omega)]
    have outer : ∀ (j s a : Nat), s + j = 16 → a ≤ k → Rn (T_X5_breaker E ev_X5_breaker) K_X5_breaker 29 [some (.inr (some 51)), some (.inl (nI n)), some (.inl (nI k)), some (.inl a3), some (.inl (nI (k - a))), some (.inl (nI s))] [] g (some (.inl (pickV a3 (fou (fun s t => brB C (rwM g) (nmM g) n s t) j s a))), g) := by
      intro j
      induction j with
      | zero =>
        intro s a hs ha
        refine Rn_ret ?_
        rw [blk_X5_breaker_29, if_pos (nI_le (by omega) (by omega))]
        rfl
      | succ j ih =>
        intro s a hs ha
        refine Rn_go (by rw [blk_X5_breaker_29, if_neg (nI_ge (by omega) (by decide)), nI_add]) ?_
        have step : ∀ t b, t < 16 → b ≤ k → seg (T_X5_breaker E ev_X5_breaker) K_X5_breaker 2000 42 [some (.inr (some 51)), some (.inl (nI n)), some (.inl (nI k)), some (.inl a3), some (.inl (nI (k - b))), some (.inl (nI s)), some (.inl (nI t))] [] g = if brB C (rwM g) (nmM g) n s t = true then (if b = 0 then some (.inl (some (.inl (if a3 = 0 then nI s else nI t)), g)) else some (.inr (42, [some (.inr (some 51)), some (.inl (nI n)), some (.inl (nI k)), some (.inl a3), some (.inl (nI (k - b + 1))), some (.inl (nI s)), some (.inl (nI (t + 1)))], [], g))) else some (.inr (42, [some (.inr (some 51)), some (.inl (nI n)), some (.inl (nI k)), some (.inl a3), some (.inl (nI (k - b))), some (.inl (nI s)), some (.inl (nI (t + 1)))], [], g)) := by
          intro t b ht hb
          rw [blk_X5_breaker_42, e]
          simp only [← nI_0]
          simp (disch := omega) only [nI_leI, nI_ltI, nI_eq, tn_nI, tn_nI', inB_eq, decide_eq_true_eq, Bool.and_eq_true, decide_true, Bool.and_true, Bool.true_and, Bool.and_self, nI_add, pk_mul, fiv_eq, if_pos, if_neg, ↓reduceIte, b2i_0, and_self, and_true, true_and, b2i_n0]
          by_cases b0 : b = 0
          · subst b0
            by_cases w0 : a3 = nI 0
            · cases brB C (rwM g) (nmM g) n s t <;> simp [w0]
            · cases brB C (rwM g) (nmM g) n s t <;> simp [w0]
          · have b1 : ¬ k - b = k := by omega
            cases brB C (rwM g) (nmM g) n s t <;> simp [b0, b1]
        generalize hr : fin (fun t => brB C (rwM g) (nmM g) n s t) (15 - s) (s + 1) a = r
        refine Rn_fin (fun t => brB C (rwM g) (nmM g) n s t) (fun t b => [some (.inr (some 51)), some (.inl (nI n)), some (.inl (nI k)), some (.inl a3), some (.inl (nI (k - b))), some (.inl (nI s)), some (.inl (nI t))]) g 16 k r ?_ ?_ ?_ ?_ (15 - s) (s + 1) a (by omega) ha hr
        · intro t b ht hb hp
          rw [step t b ht hb, if_neg (by rw [hp]; decide)]
        · intro t b ht hb hp
          rw [step t (b + 1) ht hb, if_pos hp, if_neg (by omega), show k - (b + 1) + 1 = k - b by omega]
        · intro t ht hp hrt
          refine Rn_ret ?_
          rw [step t 0 ht (by omega), if_pos hp, if_pos rfl]
          unfold fou
          rw [hr, hrt]
          rfl
        · intro b hb hrb
          refine Rn_go (by rw [blk_X5_breaker_42, if_pos (nI_le (by omega) (by decide)), nI_add]) ?_
          have := ih (s + 1) b (by omega) hb
          unfold fou
          rw [hr, hrb]
          exact this
    have := outer 16 0 k (by omega) (Nat.le_refl _)
    rw [Nat.sub_self] at this
    exact this
  · refine Rn_ret ?_
    rw [blk_X5_breaker_0, if_pos hC, hl, e01, hw, if_neg k0]
    simp [b2i, k0]
theorem run_X5_sort (E : Ex) (g : Sg) (a1 : Int32) (h : (gM g) = true) : Rn (T_X5_sort E ev_X5_sort) K_X5_sort 0 [some (.inr (some 51)), some (.inl a1)] [] g (some (.inl (if lawB (tn (g 52 128)) a1 = true then srtM (tn a1) else -1)), g) := by
  have hC : inB (g 52 128) 5 = true := h
  obtain ⟨C, hC5, e⟩ := (inB_iff (by decide)).mp hC
  cases hl : lawB (tn (g 52 128)) a1 with
  | false =>
    refine Rn_ret ?_
    rw [blk_X5_sort_0, if_pos hC, hl]; rfl
  | true =>
    have hl' := hl
    rw [e, tn_nI' (by omega)] at hl'
    obtain ⟨n, -, -, hn, rfl⟩ := law_nI hC5 hl'
    refine Rn_go (pc' := 20) (by rw [blk_X5_sort_0, if_pos hC, hl]; rfl) ?_
    refine Rn_loop (fun c => [some (.inr (some 51)), some (.inl (nI n)), some (.inl (nI (cnA n c))), some (.inl (nI (cnU n c))), some (.inl (nI (cnO n c))), some (.inl (nI c))]) (fun _ => g) 4 (fun c hc => ?_) (Rn_ret ?_)
    · have hd := D_lt n c
      rw [blk_X5_sort_20]
      simp (disch := omega) only [nI_leI, nI_ltI, nI_eq, tn_nI, tn_nI', inB_eq, decide_eq_true_eq, Bool.and_eq_true, decide_true, Bool.and_true, Bool.true_and, Bool.and_self, nI_add, pk_mul, fiv_eq, if_pos, if_neg, ↓reduceIte, b2i_0, and_self, and_true, true_and]
      rcases (show D n c = 0 ∨ D n c = 1 ∨ D n c = 2 ∨ D n c = 3 ∨ D n c = 4 by omega) with q | q | q | q | q <;> simp [q, cnA, cnU, cnO, sm, ct1]
    · have hu : cnU n 4 ≤ 4 * 1 := sm_le (fun i _ => ct1_le _)
      have ho : cnO n 4 ≤ 4 * 1 := sm_le (fun i _ => ct1_le _)
      rw [blk_X5_sort_20, tn_nI' (by omega)]
      unfold srtM
      simp only [← nI_0]
      simp (disch := omega) only [nI_leI, nI_ltI, nI_eq, tn_nI, tn_nI', inB_eq, decide_eq_true_eq, Bool.and_eq_true, decide_true, Bool.and_true, Bool.true_and, Bool.and_self, nI_add, pk_mul, fiv_eq, if_pos, if_neg, ↓reduceIte, b2i_0, and_self, and_true, true_and]
      generalize cnU n 4 = u at *
      generalize cnO n 4 = w at *
      by_cases u0 : u = 0
      · by_cases w0 : w = 0
        · simp [u0, w0]
        · by_cases w1 : w ≤ 1
          · have : ¬ 1 < w := by omega
            simp [u0, w0, w1, this]; rfl
          · have : 1 < w := by omega
            simp [u0, w0, w1, this]; rfl
      · by_cases u1 : u = 1
        · by_cases w0 : w = 0
          · simp [u1, w0]; rfl
          · by_cases w1 : w ≤ 1
            · have : ¬ 1 < w := by omega
              simp [u1, w0, w1, this]; rfl
            · have : 1 < w := by omega
              simp [u1, w0, w1, this]; rfl
        · by_cases w1 : w ≤ 1
          · have : ¬ 1 < w := by omega
            simp [u0, u1, w1, this]; rfl
          · have : 1 < w := by omega
            simp [u0, u1, w1, this]; rfl
