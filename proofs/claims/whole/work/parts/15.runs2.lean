/-! RUNS: the sheet, and the model's leaves -/
theorem run_X2_word (E : Ex) (g : Sg) (a0 a1 : Int32) (h : true = true) : Rn (T_X2_word E ev_X2_word) K_X2_word 0 [some (.inl a0), some (.inl a1)] [] g (some (.inl (nI (wd a0 a1))), g) := by
  refine Rn_ret ?_
  rw [blk_X2_word_0]
  unfold wd
  have e1 : (nI 1000) = (1000 : Int32) := rfl
  rw [e1]
  by_cases c1 : a0 = 1000
  · simp [c1]
  by_cases c2 : a1 = 1000
  · simp [c1, c2]
  by_cases c3 : a0 = a1
  · simp [c1, c2, c3]
  by_cases c4 : a1 ≤ a0
  · simp [c1, c2, c3, c4, Int32.not_lt.mpr c4]
  · simp [c1, c2, c3, c4, Int32.not_le.mp c4]
theorem wd_b (a b : Int32) : 1 ≤ wd a b ∧ wd a b ≤ 4 := by
  unfold wd
  split
  · decide
  split
  · decide
  split
  · decide
  split <;> decide
theorem run_X2_hasRow (E : Ex) (g : Sg) (a1 : Int32) (h : true = true) : Rn (T_X2_hasRow E ev_X2_hasRow) K_X2_hasRow 0 [some (.inr (some 1)), some (.inl a1)] [] g (some (.inl (b2i (inB a1 16 && rwC g (tn a1)))), g) := by
  refine Rn_ret ?_
  rw [blk_X2_hasRow_0]
  cases hb : inB a1 16 with
  | false => rfl
  | true =>
    unfold rwC tn
    by_cases c1 : g 2 a1.toNatClampNeg = -1 <;> simp [c1, b2i] <;> rfl
theorem run_X2_hasColumn (E : Ex) (g : Sg) (a1 : Int32) (h : true = true) : Rn (T_X2_hasColumn E ev_X2_hasColumn) K_X2_hasColumn 0 [some (.inr (some 1)), some (.inl a1)] [] g (some (.inl (b2i (decide (0 ≤ a1) && decide (a1 < g 1 0)))), g) := by
  refine Rn_ret ?_
  rw [blk_X2_hasColumn_0]
  by_cases c1 : a1 < 0
  · simp [c1, Int32.not_le.mpr c1]; rfl
  by_cases c2 : g 1 0 ≤ a1
  · simp [c1, c2, Int32.not_lt.mpr c2]; rfl
  · simp [c1, c2, Int32.not_lt.mp c1, Int32.not_le.mp c2]; rfl
theorem run_X2_read (E : Ex) (g : Sg) (a1 a2 : Int32) (h : (inB (a1 * nI 4 + a2) 64) = true) : Rn (T_X2_read E ev_X2_read) K_X2_read 0 [some (.inr (some 1)), some (.inl a1), some (.inl a2)] [] g (some (.inl (g 5 (a1 * nI 4 + a2).toNatClampNeg)), g) := by
  refine Rn_ret ?_
  rw [blk_X2_read_0, if_pos h]
theorem run_X2_write (E : Ex) (g : Sg) (a1 a2 a3 : Int32) (h : (inB (a1 * nI 4 + a2) 64) = true) : Rn (T_X2_write E ev_X2_write) K_X2_write 0 [some (.inr (some 1)), some (.inl a1), some (.inl a2), some (.inl a3)] [] g (none, us g 5 (upd (g 5) (a1 * nI 4 + a2).toNatClampNeg (wr1 a3))) := by
  refine Rn_ret ?_
  rw [blk_X2_write_0, if_pos h, if_pos h]
  unfold wr1
  by_cases c : a3 = 100
  · rw [if_pos c, if_pos (show a3 = nI 100 from c)]; rfl
  · rw [if_neg c, if_neg (show ¬ a3 = nI 100 from c)]
theorem run_X2_seat (E : Ex) (g : Sg) (a1 a2 a3 : Int32) (h : (inB a1 16) = true) : Rn (T_X2_seat E ev_X2_seat) K_X2_seat 0 [some (.inr (some 1)), some (.inl a1), some (.inl a2), some (.inl a3)] [] g (none, us (us (us g 2 (upd (g 2) (tn a1) a2)) 3 (upd (g 3) (tn a1) a3)) 4 (upd (g 4) (tn a1) 1)) := by
  refine Rn_ret ?_
  rw [blk_X2_seat_0, if_pos h, if_pos h, if_pos h]
  rfl
theorem run_X2_shortest (E : Ex) (g : Sg) (h : true = true) : Rn (T_X2_shortest E ev_X2_shortest) K_X2_shortest 0 [some (.inr (some 1))] [] g (some (.inl (shC g 16)), g) := by
  refine Rn_go (blk_X2_shortest_0 E g) ?_
  refine Rn_loop (fun j => [some (.inr (some 1)), some (.inl (shC g j)), some (.inl (nI j))]) (fun _ => g) 16 (fun j hj => ?_) (Rn_ret ?_)
  · rw [blk_X2_shortest_4]
    simp (disch := omega) only [nI_leI, nI_ltI, nI_eq, tn_nI, tn_nI', inB_eq, decide_eq_true_eq, Bool.and_eq_true, decide_true, Bool.and_true, Bool.true_and, Bool.and_self, nI_add, pk_mul, fiv_eq, if_pos, if_neg, ↓reduceIte, b2i_0, and_self, and_true, true_and]
    cases hr : rwC g j <;> simp [shC, hr, hj]
  · rw [blk_X2_shortest_4, if_pos (nI_le (by omega) (by decide))]
theorem run_X2_exchange (E : Ex) (g : Sg) (a1 a2 : Int32) (h : (inB a1 4 && inB a2 4) = true) : Rn (T_X2_exchange E ev_X2_exchange) K_X2_exchange 0 [some (.inr (some 1)), some (.inl a1), some (.inl a2)] [] g (none, us g 5 (exN (g 5) (tn a1) (tn a2) 16)) := by
  rw [Bool.and_eq_true] at h
  obtain ⟨c, hc, rfl⟩ := (inB_iff (by decide)).mp h.1
  obtain ⟨d, hd, rfl⟩ := (inB_iff (by decide)).mp h.2
  refine Rn_go (blk_X2_exchange_0 E g _ _) ?_
  rw [tn_nI' (by omega), tn_nI' (by omega)]
  have e0 : us g 5 (exN (g 5) c d 0) = g := by
    have : exN (g 5) c d 0 = g 5 := by funext j; simp [exN]
    rw [this, us_id]
  have key := Rn_loop (T := T_X2_exchange E ev_X2_exchange) (K := K_X2_exchange) (pc := 2) (o := (none, us g 5 (exN (g 5) c d 16))) (fun j => [some (.inr (some 1)), some (.inl (nI c)), some (.inl (nI d)), some (.inl (nI j))]) (fun j => us g 5 (exN (g 5) c d j)) 16 (fun j hj => ?_) (Rn_ret ?_)
  · rw [e0] at key
    exact key
  · rw [blk_X2_exchange_2]
    simp (disch := omega) only [nI_leI, nI_ltI, nI_eq, tn_nI, tn_nI', inB_eq, decide_eq_true_eq, Bool.and_eq_true, decide_true, Bool.and_true, Bool.true_and, Bool.and_self, nI_add, pk_mul, fiv_eq, if_pos, if_neg, ↓reduceIte, b2i_0, and_self, and_true, true_and]
    rw [us_us, us_us, us_s]
    congr 7
    funext i
    simp only [upd, exN]
    have h1 : (j * 4 + c) % 4 = c := by omega
    have h2 : (j * 4 + d) % 4 = d := by omega
    have h3 : (j * 4 + c) / 4 = j := by omega
    have h4 : (j * 4 + d) / 4 = j := by omega
    have h5 : ¬ j * 4 + c < 4 * j := by omega
    have h6 : ¬ j * 4 + d < 4 * j := by omega
    by_cases k1 : i = j * 4 + d
    · subst k1
      rw [if_pos rfl, if_neg h5, if_pos (by omega), h2, h4]
      by_cases k2 : d = c
      · rw [if_pos k2, k2]
      · rw [if_neg k2, if_pos rfl]
    · rw [if_neg k1]
      by_cases k2 : i = j * 4 + c
      · subst k2
        rw [if_pos rfl, if_neg h6, if_pos (by omega), h1, h3, if_pos rfl]
      · rw [if_neg k2]
        by_cases k3 : i < 4 * j
        · rw [if_pos k3, if_pos (show i < 4 * (j + 1) by omega)]
        · rw [if_neg k3]
          by_cases k4 : i < 4 * (j + 1)
          · rw [if_pos k4, if_neg (by omega), if_neg (by omega)]
          · rw [if_neg k4]
  · rw [blk_X2_exchange_2, if_pos (nI_le (by omega) (by decide))]
theorem btw_lt {C : Nat} (hC : C ≤ 4) (nm : Nat → Nat → Int32) (s t : Nat) : btw C nm s t < 625 := by
  unfold btw
  have w := fun c => wd_b (nm s c) (nm t c)
  have h0 := w 0; have h1 := w 1; have h2 := w 2; have h3 := w 3
  rcases (show C = 0 ∨ C = 1 ∨ C = 2 ∨ C = 3 ∨ C = 4 by omega) with e | e | e | e | e <;> subst e <;> simp only [sm] <;> omega
theorem run_X2_compared (E : Ex) (g : Sg) (a1 a2 : Int32) (h : (inB a1 16 && inB a2 16 && inB (g 1 0) 5) = true) : Rn (T_X2_compared E ev_X2_compared) K_X2_compared 0 [some (.inr (some 1)), some (.inl a1), some (.inl a2)] [] g (some (.inl (nI (btw (tn (g 1 0)) (nmC g) (tn a1) (tn a2)))), g) := by
  rw [Bool.and_eq_true, Bool.and_eq_true] at h
  obtain ⟨s, hs, rfl⟩ := (inB_iff (by decide)).mp h.1.1
  obtain ⟨t, ht, rfl⟩ := (inB_iff (by decide)).mp h.1.2
  obtain ⟨C, hC, e⟩ := (inB_iff (by decide)).mp h.2
  refine Rn_go (blk_X2_compared_0 E g _ _) ?_
  rw [e, tn_nI' (by omega), tn_nI' (by omega), tn_nI' (by omega)]
  refine Rn_loop (fun c => [some (.inr (some 1)), some (.inl (nI s)), some (.inl (nI t)), some (.inl (nI (btw c (nmC g) s t))), some (.inl (nI c))]) (fun _ => g) C (fun c hc => ?_) (Rn_ret ?_)
  · rw [blk_X2_compared_5, e]
    simp (disch := omega) only [nI_leI, nI_ltI, nI_eq, tn_nI, tn_nI', inB_eq, decide_eq_true_eq, Bool.and_eq_true, decide_true, Bool.and_true, Bool.true_and, Bool.and_self, nI_add, pk_mul, fiv_eq, if_pos, if_neg, ↓reduceIte, b2i_0, and_self, and_true, true_and]
    rfl
  · rw [blk_X2_compared_5, e, if_pos (nI_le (by omega) (by omega))]
theorem run_X2_pairBreaks (E : Ex) (g : Sg) (a1 a2 a3 : Int32) (h : (inB a1 16 && inB a2 16 && inB (g 1 0) 5 && inB a3 625) = true) : Rn (T_X2_pairBreaks E ev_X2_pairBreaks) K_X2_pairBreaks 0 [some (.inr (some 1)), some (.inl a1), some (.inl a2), some (.inl a3)] [] g (some (.inl (b2i (pbC g (tn a1) (tn a2) (tn a3)))), g) := by
  rw [Bool.and_eq_true, Bool.and_eq_true, Bool.and_eq_true] at h
  obtain ⟨s, hs, rfl⟩ := (inB_iff (by decide)).mp h.1.1.1
  obtain ⟨t, ht, rfl⟩ := (inB_iff (by decide)).mp h.1.1.2
  obtain ⟨C, hC, e⟩ := (inB_iff (by decide)).mp h.1.2
  obtain ⟨n, hn, rfl⟩ := (inB_iff (by decide)).mp h.2
  refine Rn_ret ?_
  have hb := btw_lt (C := C) (by omega) (nmC g) s t
  have ht := tun_lt n hn
  rw [blk_X2_pairBreaks_0, e]
  unfold pbC
  rw [e]
  simp (disch := omega) only [nI_leI, nI_ltI, nI_eq, tn_nI, tn_nI', inB_eq, decide_eq_true_eq, Bool.and_eq_true, decide_true, Bool.and_true, Bool.true_and, Bool.and_self, nI_add, pk_mul, fiv_eq, if_pos, if_neg, ↓reduceIte, b2i_0, and_self, and_true, true_and]
  generalize hB : btw C (nmC g) s t = B at *
  cases rwC g s <;> cases rwC g t <;> cases cov n B <;> cases cov (tun n) B <;> simp [*] <;> rfl
theorem fil_step (f : Nat → Int32) (n : Nat) (v : Int32) : upd (filF f n v) n v = filF f (n + 1) v := by
  funext j
  simp only [upd, filF]
  by_cases h : j = n
  · subst h; simp
  · rw [if_neg h]
    by_cases h2 : j < n
    · rw [if_pos h2, if_pos (by omega)]
    · rw [if_neg h2, if_neg (by omega)]
theorem run_J7_fill_53178 (E : Ex) (g : Sg) (a0 : Nat) (a1 : Int32) (h : (filOK a0) = true) : Rn (T_J7_fill_53178 E ev_J7_fill_53178) K_J7_fill_53178 0 [some (.inr (some a0)), some (.inl a1)] [] g (none, us g a0 (filF (g a0) (lnq a0) a1)) := by
  have e0 : ∀ q, us g q (filF (g q) 0 a1) = g := by
    intro q
    have : filF (g q) 0 a1 = g q := by funext j; simp [filF]
    rw [this, us_id]
  unfold filOK at h
  simp only [Bool.or_eq_true, decide_eq_true_eq] at h
  rcases h with (rfl | rfl) | rfl
  · refine Rn_go (blk2_J7_fill_53178_0 E g a1) ?_
    have key := Rn_loop (T := T_J7_fill_53178 E ev_J7_fill_53178) (K := K_J7_fill_53178) (pc := 5) (o := (none, us g 2 (filF (g 2) 16 a1))) (fun j => [some (.inr (some 2)), some (.inl a1), some (.inl (nI 0 + nI j)), some (.inl (nI 16))]) (fun j => us g 2 (filF (g 2) j a1)) 16 (fun j hj => ?_) (Rn_ret ?_)
    · rw [e0] at key
      exact key
    · rw [blk2_J7_fill_53178_5]
      simp (disch := omega) only [nI_leI, nI_ltI, nI_eq, tn_nI, tn_nI', inB_eq, decide_eq_true_eq, Bool.and_eq_true, decide_true, Bool.and_true, Bool.true_and, Bool.and_self, nI_add, pk_mul, fiv_eq, if_pos, if_neg, ↓reduceIte, b2i_0, and_self, and_true, true_and, Nat.zero_add]
      rw [us_us, us_s, fil_step]
    · rw [blk2_J7_fill_53178_5]
      simp (disch := omega) only [nI_leI, nI_ltI, nI_eq, tn_nI, tn_nI', inB_eq, decide_eq_true_eq, Bool.and_eq_true, decide_true, Bool.and_true, Bool.true_and, Bool.and_self, nI_add, pk_mul, fiv_eq, if_pos, if_neg, ↓reduceIte, b2i_0, and_self, and_true, true_and]
  · refine Rn_go (blk6_J7_fill_53178_0 E g a1) ?_
    have key := Rn_loop (T := T_J7_fill_53178 E ev_J7_fill_53178) (K := K_J7_fill_53178) (pc := 5) (o := (none, us g 6 (filF (g 6) 4 a1))) (fun j => [some (.inr (some 6)), some (.inl a1), some (.inl (nI 0 + nI j)), some (.inl (nI 4))]) (fun j => us g 6 (filF (g 6) j a1)) 4 (fun j hj => ?_) (Rn_ret ?_)
    · rw [e0] at key
      exact key
    · rw [blk6_J7_fill_53178_5]
      simp (disch := omega) only [nI_leI, nI_ltI, nI_eq, tn_nI, tn_nI', inB_eq, decide_eq_true_eq, Bool.and_eq_true, decide_true, Bool.and_true, Bool.true_and, Bool.and_self, nI_add, pk_mul, fiv_eq, if_pos, if_neg, ↓reduceIte, b2i_0, and_self, and_true, true_and, Nat.zero_add]
      rw [us_us, us_s, fil_step]
    · rw [blk6_J7_fill_53178_5]
      simp (disch := omega) only [nI_leI, nI_ltI, nI_eq, tn_nI, tn_nI', inB_eq, decide_eq_true_eq, Bool.and_eq_true, decide_true, Bool.and_true, Bool.true_and, Bool.and_self, nI_add, pk_mul, fiv_eq, if_pos, if_neg, ↓reduceIte, b2i_0, and_self, and_true, true_and]
  · refine Rn_go (blk46_J7_fill_53178_0 E g a1) ?_
    have key := Rn_loop (T := T_J7_fill_53178 E ev_J7_fill_53178) (K := K_J7_fill_53178) (pc := 5) (o := (none, us g 46 (filF (g 46) 625 a1))) (fun j => [some (.inr (some 46)), some (.inl a1), some (.inl (nI 0 + nI j)), some (.inl (nI 625))]) (fun j => us g 46 (filF (g 46) j a1)) 625 (fun j hj => ?_) (Rn_ret ?_)
    · rw [e0] at key
      exact key
    · rw [blk46_J7_fill_53178_5]
      simp (disch := omega) only [nI_leI, nI_ltI, nI_eq, tn_nI, tn_nI', inB_eq, decide_eq_true_eq, Bool.and_eq_true, decide_true, Bool.and_true, Bool.true_and, Bool.and_self, nI_add, pk_mul, fiv_eq, if_pos, if_neg, ↓reduceIte, b2i_0, and_self, and_true, true_and, Nat.zero_add]
      rw [us_us, us_s, fil_step]
    · rw [blk46_J7_fill_53178_5]
      simp (disch := omega) only [nI_leI, nI_ltI, nI_eq, tn_nI, tn_nI', inB_eq, decide_eq_true_eq, Bool.and_eq_true, decide_true, Bool.and_true, Bool.true_and, Bool.and_self, nI_add, pk_mul, fiv_eq, if_pos, if_neg, ↓reduceIte, b2i_0, and_self, and_true, true_and]
theorem run_X2_empty (E : Ex) (g : Sg) (a1 : Int32) (h : true = true) : Rn (T_X2_empty E ev_X2_empty) K_X2_empty 0 [some (.inr (some 1)), some (.inl a1)] [] g (none, us (us (us g 1 (upd (g 1) 0 a1)) 2 (filF (g 2) 16 (-1))) 6 (filF (g 6) 4 0)) := by
  exact Rn_ret (blk_X2_empty_0 E g a1)
theorem run_X2_copyFrom (E : Ex) (g : Sg) (a0 a1 : Nat) (h : (cpOK a0 a1) = true) : Rn (T_X2_copyFrom E ev_X2_copyFrom) K_X2_copyFrom 0 [some (.inr (some a0)), some (.inr (some a1))] [] g (none, cpS g a1 a0) := by
  unfold cpOK isRing at h
  simp only [Bool.or_eq_true, Bool.and_eq_true, decide_eq_true_eq] at h
  rcases h with ⟨rfl, (((((rfl | rfl) | rfl) | rfl) | rfl) | rfl)⟩ | ⟨rfl, (((((rfl | rfl) | rfl) | rfl) | rfl) | rfl)⟩
  · exact Rn_ret (blk1_9_X2_copyFrom_0 E g)
  · exact Rn_ret (blk1_15_X2_copyFrom_0 E g)
  · exact Rn_ret (blk1_21_X2_copyFrom_0 E g)
  · exact Rn_ret (blk1_27_X2_copyFrom_0 E g)
  · exact Rn_ret (blk1_33_X2_copyFrom_0 E g)
  · exact Rn_ret (blk1_39_X2_copyFrom_0 E g)
  · exact Rn_ret (blk9_1_X2_copyFrom_0 E g)
  · exact Rn_ret (blk15_1_X2_copyFrom_0 E g)
  · exact Rn_ret (blk21_1_X2_copyFrom_0 E g)
  · exact Rn_ret (blk27_1_X2_copyFrom_0 E g)
  · exact Rn_ret (blk33_1_X2_copyFrom_0 E g)
  · exact Rn_ret (blk39_1_X2_copyFrom_0 E g)
