/-! RUNS: the model's laws, sets and keys -/
theorem isI_in0 {n : Nat} (hn : n < 2 ^ 31) (x : Int32) : isI x (nI 0) (nI n - nI 1) = inB x n := by
  by_cases h : n = 0
  · subst h
    unfold isI
    cases hb : inB x 0 with
    | true =>
      obtain ⟨j, hj, -⟩ := (inB_iff (by decide)).mp hb
      omega
    | false =>
      have : (nI 0 - nI 1 : Int32) = -1 := by decide
      rw [this]
      by_cases a : nI 0 ≤ x
      · have : ¬ x ≤ -1 := fun z => absurd (Int32.le_trans a z) (by decide)
        simp [this]
      · simp [a]
  · rw [pk_sub (show 1 ≤ n by omega)]
    exact isI_in (by omega) hn x
theorem fdN_le (ne : Nat → Int32) (N : Nat) (m : Int32) (i : Nat) : fdN ne N m i ≤ i := by
  have := sm_le (f := fun i => ct1 (okM ne N (1 + i) m)) (b := 1) (n := i) (fun j _ => ct1_le _)
  unfold fdN
  omega
theorem run_X5_finds (E : Ex) (g : Sg) (a1 a2 : Int32) (h : (gM g) = true) : Rn (T_X5_finds E ev_X5_finds) K_X5_finds 0 [some (.inr (some 51)), some (.inl a1), some (.inl a2)] [] g (some (.inl (b2i (csB a1 a2))), (if csB a1 a2 = true then fndM g a1 a2 else g)) := by
  have hC : inB (g 52 128) 5 = true := h
  obtain ⟨C, hC5, e⟩ := (inB_iff (by decide)).mp hC
  have hp := pow5_b hC5
  have i1 : isI a1 (nI 0) (nI 120) = isI a1 0 120 := rfl
  have i2 : isI a2 (nI 1) (nI 4) = isI a2 1 4 := rfl
  unfold csB
  cases h1 : isI a1 0 120 with
  | false =>
    refine Rn_ret ?_
    rw [blk_X5_finds_0, i1, h1]; rfl
  | true =>
  cases h2 : isI a2 1 4 with
  | false =>
    refine Rn_ret ?_
    rw [blk_X5_finds_0, i1, h1, i2, h2]; rfl
  | true =>
  refine Rn_go (pc' := 23) (by rw [blk_X5_finds_0, i1, h1, i2, h2]; rfl) ?_
  simp only [Bool.and_self, if_true]
  have e0 : us g 55 (nrF g a1 (1 + 0) (g 55)) = g := by
    have : nrF g a1 (1 + 0) (g 55) = g 55 := by
      funext j
      unfold nrF
      rw [if_neg (by omega)]
    rw [this, us_id]
  have key := Rn_loop (T := T_X5_finds E ev_X5_finds) (K := K_X5_finds) (pc := 23) (o := (some (.inl (b2i true)), fndM g a1 a2)) (fun i => [some (.inr (some 51)), some (.inl a1), some (.inl a2), some (.inl (nI (1 + i)))]) (fun i => us g 55 (nrF g a1 (1 + i) (g 55))) (5 ^ C - 1) (fun i hi => ?_) ?_
  · rw [e0] at key
    exact key
  · rw [blk_X5_finds_23]
    have r1 : ∀ f, rwM (us g 55 f) = rwM g := fun f => rfl
    have r2 : ∀ f, nmM (us g 55 f) = nmM g := fun f => rfl
    have r3 : ∀ f, us g 55 f 52 128 = g 52 128 := fun f => rfl
    rw [r1, r2, r3, e]
    simp (disch := omega) only [nI_leI, nI_ltI, nI_eq, tn_nI, tn_nI', inB_eq, decide_eq_true_eq, Bool.and_eq_true, decide_true, Bool.and_true, Bool.true_and, Bool.and_self, nI_add, pk_mul, fiv_eq, if_pos, if_neg, ↓reduceIte, b2i_0, and_self, and_true, true_and]
    rw [us_us, us_us, us_s]
    have st : ∀ v : Int32, v = b2i (decide (nI (brN C (rwM g) (nmM g) (1 + i)) ≤ a1)) → upd (nrF g a1 (1 + i) (g 55)) (1 + i) v = nrF g a1 (1 + i + 1) (g 55) := by
      intro v hv
      funext j
      unfold upd nrF
      rw [e, tn_nI' (by omega)]
      by_cases k : j = 1 + i
      · subst k
        rw [if_pos rfl, if_pos (by omega), hv]
      · rw [if_neg k]
        by_cases k2 : 1 ≤ j ∧ j < 1 + i
        · rw [if_pos k2, if_pos (by omega)]
        · rw [if_neg k2, if_neg (by omega)]
    by_cases k : a1 < nI (brN C (rwM g) (nmM g) (1 + i))
    · rw [if_pos k, st (nI 0) (by simp [Int32.not_le.mpr k]; rfl)]
      rfl
    · rw [if_neg k, st (nI 1) (by simp [Int32.not_lt.mp k]; rfl)]
      rfl
  · rw [show 1 + (5 ^ C - 1) = 5 ^ C by omega]
    refine Rn_go (by
      rw [blk_X5_finds_23]
      have r3 : ∀ f, us g 55 f 52 128 = g 52 128 := fun f => rfl
      rw [r3, e, tn_nI' (by omega), inB_nI (show C < 5 by omega) (by decide), if_pos rfl, if_pos (nI_le (by omega) (by omega))]) ?_
    have hNE : nrM g a1 = nrF g a1 (5 ^ C) (g 55) := by unfold nrM; rw [e, tn_nI' (by omega)]
    unfold fndM
    rw [hNE, e, tn_nI' (by omega)]
    generalize nrF g a1 (5 ^ C) (g 55) = NE
    have r4 : us g 55 NE 51 = g 51 := rfl
    rw [r4]
    have key2 := Rn_loop (T := T_X5_finds E ev_X5_finds) (K := K_X5_finds) (pc := 64) (o := (some (.inl (b2i true)), us (us (us g 55 NE) 51 (upd (g 51) 6 (nI (fdN NE (5 ^ C) a2 (5 ^ C - 1))))) 56 (fdF NE (5 ^ C) a2 (g 56) (5 ^ C - 1)))) (fun i => [some (.inr (some 51)), some (.inl a1), some (.inl a2), some (.inl (nI (1 + i)))]) (fun i => us (us (us g 55 NE) 51 (upd (g 51) 6 (nI (fdN NE (5 ^ C) a2 i)))) 56 (fdF NE (5 ^ C) a2 (g 56) i)) 0 (fun i hi => by omega) ?_
    · have e1 : us (us (us g 55 NE) 51 (upd (g 51) 6 (nI (fdN NE (5 ^ C) a2 0)))) 56 (fdF NE (5 ^ C) a2 (g 56) 0) = us (us g 55 NE) 51 (upd (g 51) 6 (nI 0)) := us_id (us (us g 55 NE) 51 (upd (g 51) 6 (nI 0))) 56
      rw [e1] at key2
      exact key2
    have r3 : ∀ f h, us (us (us g 55 NE) 51 f) 56 h 52 128 = g 52 128 := fun f h => rfl
    have r5 : ∀ f h, us (us (us g 55 NE) 51 f) 56 h 55 = NE := fun f h => rfl
    have all : ∀ j i, i + j = 5 ^ C - 1 → Rn (T_X5_finds E ev_X5_finds) K_X5_finds 64 [some (.inr (some 51)), some (.inl a1), some (.inl a2), some (.inl (nI (1 + i)))] [] (us (us (us g 55 NE) 51 (upd (g 51) 6 (nI (fdN NE (5 ^ C) a2 i)))) 56 (fdF NE (5 ^ C) a2 (g 56) i)) (some (.inl (b2i true)), us (us (us g 55 NE) 51 (upd (g 51) 6 (nI (fdN NE (5 ^ C) a2 (5 ^ C - 1))))) 56 (fdF NE (5 ^ C) a2 (g 56) (5 ^ C - 1))) := by
      intro j
      induction j with
      | zero =>
        intro i hij
        have : i = 5 ^ C - 1 := by omega
        subst this
        refine Rn_ret ?_
        rw [blk_X5_finds_64, r3, e, tn_nI' (by omega), inB_nI (show C < 5 by omega) (by decide), if_pos rfl, if_pos (nI_le (by omega) (by omega))]
        rfl
      | succ j ih =>
        intro i hij
        have hn : 1 + i < 625 := by omega
        have ht := tun_lt (1 + i) hn
        have hfi := fdN_le NE (5 ^ C) a2 i
        have nxt := ih (i + 1) (by omega)
        have hb := blk_X5_finds_64 E (us (us (us g 55 NE) 51 (upd (g 51) 6 (nI (fdN NE (5 ^ C) a2 i)))) 56 (fdF NE (5 ^ C) a2 (g 56) i)) a1 a2 (nI (1 + i))
        rw [r3, r5, e, tn_nI' (by omega), inB_nI (show C < 5 by omega) (by decide), if_pos rfl, if_neg (nI_ge (by omega) (by omega)), inB_nI hn (by decide), if_pos rfl, if_pos rfl, if_pos rfl, tn_nI (by omega), tn_nI' (by omega), nI_add] at hb
        have skip : okM NE (5 ^ C) (1 + i) a2 = false → Rn (T_X5_finds E ev_X5_finds) K_X5_finds 64 [some (.inr (some 51)), some (.inl a1), some (.inl a2), some (.inl (nI (1 + i + 1)))] [] (us (us (us g 55 NE) 51 (upd (g 51) 6 (nI (fdN NE (5 ^ C) a2 i)))) 56 (fdF NE (5 ^ C) a2 (g 56) i)) (some (.inl (b2i true)), us (us (us g 55 NE) 51 (upd (g 51) 6 (nI (fdN NE (5 ^ C) a2 (5 ^ C - 1))))) 56 (fdF NE (5 ^ C) a2 (g 56) (5 ^ C - 1))) := by
          intro hok
          have x1 : fdN NE (5 ^ C) a2 (i + 1) = fdN NE (5 ^ C) a2 i := by
            show fdN NE (5 ^ C) a2 i + ct1 (okM NE (5 ^ C) (1 + i) a2) = _
            rw [hok]; rfl
          have x2 : fdF NE (5 ^ C) a2 (g 56) (i + 1) = fdF NE (5 ^ C) a2 (g 56) i := by
            show (if okM NE (5 ^ C) (1 + i) a2 = true then _ else _) = _
            rw [hok]; rfl
          rw [x1, x2] at nxt
          exact nxt
        by_cases k1 : NE (1 + i) = 0
        · rw [if_pos k1] at hb
          exact Rn_go hb (skip (by simp [okM, k1]))
        rw [if_neg k1] at hb
        by_cases k2 : min (1 + i) (tun (1 + i)) = 1 + i
        · rw [k2, if_pos rfl] at hb
          by_cases k3 : nI (cols (1 + i)) ≤ a2
          · rw [if_pos k3] at hb
            refine Rn_go hb ?_
            have r6 : ∀ f h, us (us (us g 55 NE) 51 f) 56 h 51 6 = f 6 := fun f h => rfl
            have r7 : ∀ f h, us (us (us g 55 NE) 51 f) 56 h 51 = f := fun f h => rfl
            have inst : ∀ k, k < 5 ^ C - 1 → seg (T_X5_finds E ev_X5_finds) K_X5_finds 2000 107 [some (.inr (some 51)), some (.inl a1), some (.inl a2), some (.inl (nI (1 + i))), some (.inl (nI 1)), some (.inl (nI (1 + k)))] [] (us (us (us g 55 NE) 51 (upd (g 51) 6 (nI (fdN NE (5 ^ C) a2 i)))) 56 (fdF NE (5 ^ C) a2 (g 56) i)) = some (.inr (107, [some (.inr (some 51)), some (.inl a1), some (.inl a2), some (.inl (nI (1 + i))), some (.inl (if aloB NE (1 + i) (1 + k) = true then nI 1 else nI 0)), some (.inl (nI (1 + k + 1)))], [], us (us (us g 55 NE) 51 (upd (g 51) 6 (nI (fdN NE (5 ^ C) a2 i)))) 56 (fdF NE (5 ^ C) a2 (g 56) i))) := by
              intro k hk
              rw [blk_X5_finds_107, r3, r5, e, tn_nI' (by omega), inB_nI (show C < 5 by omega) (by decide), if_pos rfl, if_neg (nI_ge (by omega) (by omega)), if_neg (by decide)]
              unfold aloB
              simp (disch := omega) only [nI_leI, nI_ltI, nI_eq, tn_nI, tn_nI', inB_eq, decide_eq_true_eq, Bool.and_eq_true, decide_true, Bool.and_true, Bool.true_and, Bool.and_self, nI_add, pk_mul, fiv_eq, if_pos, if_neg, ↓reduceIte, b2i_0, and_self, and_true, true_and]
              by_cases c1 : NE (1 + k) = 0
              · simp [c1]
              · by_cases c2 : 1 + k = 1 + i
                · simp [c1, c2]
                · by_cases c3 : 1 + k = tun (1 + i)
                  · simp [c1, c2, c3]
                  · have c2' : ¬ k = i := by omega
                    cases isd (1 + i) (1 + k) <;> simp [c1, c2', c3]
            refine Rn_loopE (fun k => aloB NE (1 + i) (1 + k)) (fun k => [some (.inr (some 51)), some (.inl a1), some (.inl a2), some (.inl (nI (1 + i))), some (.inl (nI 1)), some (.inl (nI (1 + k)))]) (fun _ => us (us (us g 55 NE) 51 (upd (g 51) 6 (nI (fdN NE (5 ^ C) a2 i)))) 56 (fdF NE (5 ^ C) a2 (g 56) i)) (5 ^ C - 1) (fun k hk hpk => ?_) (fun k hk hpk _ => ?_) (fun hpk => ?_)
            · rw [inst k hk, hpk, if_pos rfl]; rfl
            · refine Rn_go (inst k hk) ?_
              rw [hpk, if_neg (by decide)]
              refine Rn_go (pc' := 64) (by
                rw [blk_X5_finds_107, r3, e, tn_nI' (by omega), inB_nI (show C < 5 by omega) (by decide), if_pos rfl, nI_add]
                simp only [if_pos (show nI 0 = (0 : Int32) from rfl), ite_self]) (skip ?_)
              unfold okM
              rw [al_f (p := fun i_1 => aloB NE (1 + i) (1 + i_1)) hk hpk]
              simp
            · rw [show 1 + (5 ^ C - 1) = 5 ^ C by omega]
              have hok : okM NE (5 ^ C) (1 + i) a2 = true := by
                unfold okM
                rw [al_iff.mpr hpk]
                simp [k1, k2, k3]
              have x1 : fdN NE (5 ^ C) a2 (i + 1) = fdN NE (5 ^ C) a2 i + 1 := by
                show fdN NE (5 ^ C) a2 i + ct1 (okM NE (5 ^ C) (1 + i) a2) = _
                rw [hok]; rfl
              have x2 : fdF NE (5 ^ C) a2 (g 56) (i + 1) = upd (fdF NE (5 ^ C) a2 (g 56) i) (fdN NE (5 ^ C) a2 i) (nI (1 + i)) := by
                show (if okM NE (5 ^ C) (1 + i) a2 = true then _ else _) = _
                rw [hok]; rfl
              rw [x1, x2] at nxt
              refine Rn_go (pc' := 64) ?_ nxt
              rw [blk_X5_finds_107, r3, e, tn_nI' (by omega), inB_nI (show C < 5 by omega) (by decide), if_pos rfl, if_pos (nI_le (by omega) (by omega)), if_neg (by decide), r6, r7, us_s, pk_us, inB_nI (show fdN NE (5 ^ C) a2 i < 625 by omega) (by decide), if_pos rfl, tn_nI (by omega), nI_add, nI_add, upd_upd, us_us, us_comm _ _ _ (by decide), us_us, us_comm _ _ _ (by decide)]
              rfl
          · rw [if_neg k3] at hb
            exact Rn_go hb (skip (by simp [okM, k3]))
        · rw [if_neg (by rw [nI_eq (by omega) (by omega)]; exact k2)] at hb
          exact Rn_go hb (skip (by simp [okM, k2]))
    exact all (5 ^ C - 1) 0 (by omega)
theorem run_X5_laws (E : Ex) (g : Sg) (a1 a2 : Int32) (h : (gM g) = true) : Rn (T_X5_laws E ev_X5_laws) K_X5_laws 0 [some (.inr (some 51)), some (.inl a1), some (.inl a2)] [] g (some (.inl (if csB a1 a2 = true then nI (fmN g a1 a2) else -1)), (if csB a1 a2 = true then fndM g a1 a2 else g)) := by
  refine Rn_ret ?_
  rw [blk_X5_laws_0, if_pos h]
  cases csB a1 a2 <;> rfl
theorem fmN_lt (g : Sg) (b m : Int32) (h : (gM g) = true) : fmN g b m < 625 := by
  obtain ⟨C, hC5, e⟩ := (inB_iff (by decide)).mp h
  have hp := pow5_b hC5
  unfold fmN
  rw [e, tn_nI' (by omega)]
  have := fdN_le (nrM g b) (5 ^ C) m (5 ^ C - 1)
  omega
theorem run_X5_law (E : Ex) (g : Sg) (a1 a2 a3 : Int32) (h : (gM g) = true) : Rn (T_X5_law E ev_X5_law) K_X5_law 0 [some (.inr (some 51)), some (.inl a1), some (.inl a2), some (.inl a3)] [] g (some (.inl (if (csB a1 a2 && inB a3 (fmN g a1 a2)) = true then fndM g a1 a2 56 (tn a3) else -1)), (if csB a1 a2 = true then fndM g a1 a2 else g)) := by
  refine Rn_ret ?_
  rw [blk_X5_law_0, if_pos h]
  have hf := fmN_lt g a1 a2 h
  cases hs : csB a1 a2 with
  | false => rfl
  | true =>
    have e6 : (if true = true then fndM g a1 a2 else g) 51 6 = nI (fmN g a1 a2) := rfl
    rw [e6, isI_in0 (by omega)]
    cases hi : inB a3 (fmN g a1 a2) with
    | false => rfl
    | true =>
      obtain ⟨k, hk, rfl⟩ := (inB_iff (by omega)).mp hi
      rw [inB_nI (show k < 625 by omega) (by decide)]
      rfl
theorem run_X5_isSet (E : Ex) (g : Sg) (a1 : Int32) (h : (gM g) = true) : Rn (T_X5_isSet E ev_X5_isSet) K_X5_isSet 0 [some (.inr (some 51)), some (.inl a1)] [] g (some (.inl (b2i (inB a1 (2 ^ tn (g 52 128))))), g) := by
  obtain ⟨C, hC5, e⟩ := (inB_iff (by decide)).mp h
  have hp := pow2_b hC5
  refine Rn_ret ?_
  rw [blk_X5_isSet_0, if_pos (isB_b2i _), e, shl1 C (by omega), isI_in0 (by omega), tn_nI' (by omega)]
theorem run_X5_alikeIn (E : Ex) (g : Sg) (a1 a2 a3 : Int32) (h : (inB a1 16 && inB a2 16 && inB a3 16 && gM g) = true) : Rn (T_X5_alikeIn E ev_X5_alikeIn) K_X5_alikeIn 0 [some (.inr (some 51)), some (.inl a1), some (.inl a2), some (.inl a3)] [] g (some (.inl (b2i (ali (tn (g 52 128)) (nmM g) (tn a3) (tn a1) (tn a2)))), g) := by
  rw [Bool.and_eq_true, Bool.and_eq_true, Bool.and_eq_true] at h
  obtain ⟨s, hs, rfl⟩ := (inB_iff (by decide)).mp h.1.1.1
  obtain ⟨t, ht, rfl⟩ := (inB_iff (by decide)).mp h.1.1.2
  obtain ⟨n, hn, rfl⟩ := (inB_iff (by decide)).mp h.1.2
  obtain ⟨C, hC5, e⟩ := (inB_iff (by decide)).mp h.2
  refine Rn_go (blk_X5_alikeIn_0 E g _ _ _) ?_
  rw [e, tn_nI' (by omega), tn_nI' (by omega), tn_nI' (by omega), tn_nI' (by omega)]
  have step : ∀ c, c < C → seg (T_X5_alikeIn E ev_X5_alikeIn) K_X5_alikeIn 2000 3 [some (.inr (some 51)), some (.inl (nI s)), some (.inl (nI t)), some (.inl (nI n)), some (.inl (nI c))] [] g = if (!(bit n c && !decide (wd (nmM g s c) (nmM g t c) = 1))) = true then some (.inr (3, [some (.inr (some 51)), some (.inl (nI s)), some (.inl (nI t)), some (.inl (nI n)), some (.inl (nI (c + 1)))], [], g)) else some (.inl (some (.inl (nI 0)), g)) := by
    intro c hc
    have hw := wd_b (nmM g s c) (nmM g t c)
    rw [blk_X5_alikeIn_3, e, shr_bit (by omega) (by omega)]
    unfold bit
    simp (disch := omega) only [nI_leI, nI_ltI, nI_eq, tn_nI, tn_nI', inB_eq, decide_eq_true_eq, Bool.and_eq_true, decide_true, Bool.and_true, Bool.true_and, Bool.and_self, nI_add, pk_mul, fiv_eq, if_pos, if_neg, ↓reduceIte, b2i_0, and_self, and_true, true_and]
    by_cases k1 : n / 2 ^ c % 2 = 1
    · by_cases k2 : wd (nmM g s c) (nmM g t c) = 1 <;> simp [k1, k2]
    · simp [k1]
  refine Rn_loopE (fun c => !(bit n c && !decide (wd (nmM g s c) (nmM g t c) = 1))) (fun c => [some (.inr (some 51)), some (.inl (nI s)), some (.inl (nI t)), some (.inl (nI n)), some (.inl (nI c))]) (fun _ => g) C (fun c hc hp => ?_) (fun c hc hp _ => Rn_ret ?_) (fun hp => Rn_ret ?_)
  · rw [step c hc, if_pos hp]
  · rw [step c hc, if_neg (by rw [hp]; decide), show ali C (nmM g) n s t = false from al_f hc hp]; rfl
  · rw [blk_X5_alikeIn_3, e, if_pos (nI_le (by omega) (by omega)), show ali C (nmM g) n s t = true from al_iff.mpr hp]; rfl
def pq (p0 p1 p2 p3 : Bool) : Nat → Bool := fun c => if c = 0 then p0 else if c = 1 then p1 else if c = 2 then p2 else p3
theorem msk_cl0 : ∀ C, C < 5 → ∀ c, c < C → ∀ p0 p1 p2 p3 : Bool, nI (mskN (pq p0 p1 p2 p3) C) &&& (nI (2 ^ c) ^^^ (-1)) = nI (mskN (fun k => pq p0 p1 p2 p3 k && !decide (k = c)) C) := by decide +kernel
theorem msk_congr {P Q : Nat → Bool} {n : Nat} (h : ∀ i, i < n → P i = Q i) : mskN P n = mskN Q n := sm_congr fun i hi => by rw [h i hi]
theorem msk_cl {C c : Nat} (hC : C < 5) (hc : c < C) (P : Nat → Bool) : nI (mskN P C) &&& (nI (2 ^ c) ^^^ (-1)) = nI (mskN (fun k => P k && !decide (k = c)) C) := by
  have e : ∀ i, i < C → P i = pq (P 0) (P 1) (P 2) (P 3) i := by
    intro i hi
    unfold pq
    rcases (show i = 0 ∨ i = 1 ∨ i = 2 ∨ i = 3 by omega) with q | q | q | q <;> subst q <;> rfl
  rw [msk_congr e, msk_cl0 C hC c hc]
  congr 1
  exact msk_congr fun i hi => by rw [← e i hi]
theorem msk_all : ∀ C, C < 5 → 2 ^ C - 1 = mskN (fun _ => true) C := by decide +kernel
theorem stP_next (rw : Nat → Bool) (C : Nat) (nm : Nat → Nat → Int32) (n s : Nat) : stP rw C nm n s 16 = stP rw C nm n (s + 1) 0 := by
  funext c
  simp [stP, al]
theorem stP_step (rw : Nat → Bool) (C : Nat) (nm : Nat → Nat → Int32) (n s t c : Nat) : stP rw C nm n s (t + 1) c = (stP rw C nm n s t c && stB rw C nm n s t c) := by
  simp [stP, al, Bool.and_assoc]
theorem run_X5_settles (E : Ex) (g : Sg) (a1 : Int32) (h : (gM g) = true) : Rn (T_X5_settles E ev_X5_settles) K_X5_settles 0 [some (.inr (some 51)), some (.inl a1)] [] g (some (.inl (if inB a1 (2 ^ tn (g 52 128)) = true then nI (mskN (stP (rwM g) (tn (g 52 128)) (nmM g) (tn a1) 16 0) (tn (g 52 128))) else -1)), g) := by
  obtain ⟨C, hC5, e⟩ := (inB_iff (by decide)).mp h
  have hp := pow2_b hC5
  rw [e, tn_nI' (by omega)]
  have hb0 := blk_X5_settles_0 E g a1
  rw [h, if_pos rfl, e, tn_nI' (by omega), shl1 C (by omega), pk_sub hp.1, msk_all C hC5] at hb0
  cases hb : inB a1 (2 ^ C) with
  | false =>
    refine Rn_ret ?_
    rw [hb0, hb]; rfl
  | true =>
  obtain ⟨n, hn, rfl⟩ := (inB_iff (by omega)).mp hb
  refine Rn_go (by rw [hb0, hb]; rfl) ?_
  rw [if_pos rfl, tn_nI' (by omega)]
  have mem : ∀ s t, s < 16 → t < 16 → ∀ o, Rn (T_X5_settles E ev_X5_settles) K_X5_settles 30 [some (.inr (some 51)), some (.inl (nI n)), some (.inl (nI (mskN (stP (rwM g) C (nmM g) n s (t + 1)) C))), some (.inl (nI s)), some (.inl (nI (t + 1)))] [] g o → Rn (T_X5_settles E ev_X5_settles) K_X5_settles 30 [some (.inr (some 51)), some (.inl (nI n)), some (.inl (nI (mskN (stP (rwM g) C (nmM g) n s t) C))), some (.inl (nI s)), some (.inl (nI t))] [] g o := by
    intro s t hs ht o ho
    have hb30 := blk_X5_settles_30 E g (nI n) (nI (mskN (stP (rwM g) C (nmM g) n s t) C)) (nI s) (nI t)
    rw [if_neg (nI_ge ht (by decide)), e, h, tn_nI' (by omega), tn_nI' (by omega), tn_nI' (by omega), tn_nI' (by omega), inB_nI hs (by decide), inB_nI ht (by decide), inB_nI (show n < 16 by omega) (by decide), nI_add] at hb30
    have same : (∀ c, stB (rwM g) C (nmM g) n s t c = true) → mskN (stP (rwM g) C (nmM g) n s (t + 1)) C = mskN (stP (rwM g) C (nmM g) n s t) C := fun hh => msk_congr fun c _ => by rw [stP_step, hh c, Bool.and_true]
    by_cases k1 : s = t
    · rw [if_pos (by rw [k1])] at hb30
      rw [same (fun c => by simp [stB, k1])] at ho
      exact Rn_go hb30 ho
    rw [if_neg (by rw [nI_eq (by omega) (by omega)]; exact k1)] at hb30
    cases k2 : rwM g s with
    | false =>
      rw [k2] at hb30
      rw [same (fun c => by simp [stB, k2])] at ho
      exact Rn_go hb30 ho
    | true =>
    cases k3 : rwM g t with
    | false =>
      rw [k2, k3] at hb30
      rw [same (fun c => by simp [stB, k3])] at ho
      exact Rn_go hb30 ho
    | true =>
    cases k4 : ali C (nmM g) n s t with
    | false =>
      rw [k2, k3, k4] at hb30
      rw [same (fun c => by simp [stB, k4])] at ho
      exact Rn_go hb30 ho
    | true =>
    rw [k2, k3, k4] at hb30
    refine Rn_go hb30 ?_
    have key := Rn_loop (T := T_X5_settles E ev_X5_settles) (K := K_X5_settles) (pc := 77) (o := o) (fun c => [some (.inr (some 51)), some (.inl (nI n)), some (.inl (nI (mskN (fun k => stP (rwM g) C (nmM g) n s t k && (!decide (k < c) || stB (rwM g) C (nmM g) n s t k)) C))), some (.inl (nI s)), some (.inl (nI t)), some (.inl (nI c))]) (fun _ => g) C (fun c hc => ?_) ?_
    · have e0 : mskN (fun k => stP (rwM g) C (nmM g) n s t k && (!decide (k < 0) || stB (rwM g) C (nmM g) n s t k)) C = mskN (stP (rwM g) C (nmM g) n s t) C := msk_congr fun k _ => by simp
      rw [e0] at key
      exact key
    · have hw := wd_b (nmM g s c) (nmM g t c)
      rw [blk_X5_settles_77, e, shl1 c (by omega), msk_cl hC5 hc]
      simp (disch := omega) only [nI_leI, nI_ltI, nI_eq, tn_nI, tn_nI', inB_eq, decide_eq_true_eq, Bool.and_eq_true, decide_true, Bool.and_true, Bool.true_and, Bool.and_self, nI_add, pk_mul, fiv_eq, if_pos, if_neg, ↓reduceIte, b2i_0, and_self, and_true, true_and]
      by_cases w1 : wd (nmM g s c) (nmM g t c) = 1
      · rw [if_pos w1]
        congr 6
        refine congrArg (fun z => ([some (Sum.inl (nI z)), some (Sum.inl (nI s)), some (Sum.inl (nI t)), some (Sum.inl (nI (c + 1)))] : Lc)) (msk_congr fun k hk => ?_)
        by_cases kc : k = c
        · subst kc
          simp [stB, k1, k2, k3, k4, w1]
        · have : (k < c + 1) = (k < c) := by simp; omega
          simp [this]
      · rw [if_neg w1]
        congr 6
        refine congrArg (fun z => ([some (Sum.inl (nI z)), some (Sum.inl (nI s)), some (Sum.inl (nI t)), some (Sum.inl (nI (c + 1)))] : Lc)) (msk_congr fun k hk => ?_)
        by_cases kc : k = c
        · subst kc
          simp [stB, k1, k2, k3, k4, w1]
        · have : (k < c + 1) = (k < c) := by simp; omega
          simp [this, kc]
    · refine Rn_go (pc' := 30) (by rw [blk_X5_settles_77, e, if_pos (nI_le (by omega) (by omega)), nI_add]) ?_
      have e1 : mskN (fun k => stP (rwM g) C (nmM g) n s t k && (!decide (k < C) || stB (rwM g) C (nmM g) n s t k)) C = mskN (stP (rwM g) C (nmM g) n s (t + 1)) C := msk_congr fun k hk => by rw [stP_step]; simp [hk]
      rw [e1]
      exact ho
  have row : ∀ s, s < 16 → ∀ o, Rn (T_X5_settles E ev_X5_settles) K_X5_settles 21 [some (.inr (some 51)), some (.inl (nI n)), some (.inl (nI (mskN (stP (rwM g) C (nmM g) n (s + 1) 0) C))), some (.inl (nI (s + 1)))] [] g o → Rn (T_X5_settles E ev_X5_settles) K_X5_settles 21 [some (.inr (some 51)), some (.inl (nI n)), some (.inl (nI (mskN (stP (rwM g) C (nmM g) n s 0) C))), some (.inl (nI s))] [] g o := by
    intro s hs o ho
    refine Rn_go (by rw [blk_X5_settles_21, if_neg (nI_ge hs (by decide))]) ?_
    have hx : ∀ k, k ≤ 16 → Rn (T_X5_settles E ev_X5_settles) K_X5_settles 30 [some (.inr (some 51)), some (.inl (nI n)), some (.inl (nI (mskN (stP (rwM g) C (nmM g) n s (16 - k)) C))), some (.inl (nI s)), some (.inl (nI (16 - k)))] [] g o := by
      intro k
      induction k with
      | zero =>
        intro _
        refine Rn_go (pc' := 21) (by rw [blk_X5_settles_30, if_pos (nI_le (by omega) (by decide)), nI_add]) ?_
        rw [Nat.sub_zero, stP_next]
        exact ho
      | succ k ih =>
        intro hk
        refine mem s (16 - (k + 1)) hs (by omega) o ?_
        have := ih (by omega)
        rw [show 16 - k = 16 - (k + 1) + 1 by omega] at this
        exact this
    exact hx 16 (Nat.le_refl _)
  have hx : ∀ k, k ≤ 16 → Rn (T_X5_settles E ev_X5_settles) K_X5_settles 21 [some (.inr (some 51)), some (.inl (nI n)), some (.inl (nI (mskN (stP (rwM g) C (nmM g) n (16 - k) 0) C))), some (.inl (nI (16 - k)))] [] g (some (.inl (nI (mskN (stP (rwM g) C (nmM g) n 16 0) C))), g) := by
    intro k
    induction k with
    | zero =>
      intro _
      refine Rn_ret ?_
      rw [blk_X5_settles_21, if_pos (nI_le (by omega) (by decide))]
    | succ k ih =>
      intro hk
      refine row (16 - (k + 1)) (by omega) _ ?_
      have := ih (by omega)
      rw [show 16 - k = 16 - (k + 1) + 1 by omega] at this
      exact this
  exact hx 16 (Nat.le_refl _)
theorem run_X5_isKey (E : Ex) (g : Sg) (a1 : Int32) (h : (inB a1 16 && gM g) = true) : Rn (T_X5_isKey E ev_X5_isKey) K_X5_isKey 0 [some (.inr (some 51)), some (.inl a1)] [] g (some (.inl (b2i (keyB (tn (g 52 128)) (rwM g) (nmM g) (tn a1)))), g) := by
  rw [Bool.and_eq_true] at h
  obtain ⟨n, hn, rfl⟩ := (inB_iff (by decide)).mp h.1
  obtain ⟨C, hC5, e⟩ := (inB_iff (by decide)).mp h.2
  refine Rn_go (blk_X5_isKey_0 E g _) ?_
  rw [e, tn_nI' (by omega), tn_nI' (by omega)]
  have step : ∀ s t, s < 16 → t < 16 → seg (T_X5_isKey E ev_X5_isKey) K_X5_isKey 2000 12 [some (.inr (some 51)), some (.inl (nI n)), some (.inl (nI s)), some (.inl (nI t))] [] g = if (!(rwM g s && rwM g t && ali C (nmM g) n s t)) = true then some (.inr (12, [some (.inr (some 51)), some (.inl (nI n)), some (.inl (nI s)), some (.inl (nI (t + 1)))], [], g)) else some (.inl (some (.inl (nI 0)), g)) := by
    intro s t hs ht
    rw [blk_X5_isKey_12, e, h.2]
    simp (disch := omega) only [nI_leI, nI_ltI, nI_eq, tn_nI, tn_nI', inB_eq, decide_eq_true_eq, Bool.and_eq_true, decide_true, Bool.and_true, Bool.true_and, Bool.and_self, nI_add, pk_mul, fiv_eq, if_pos, if_neg, ↓reduceIte, b2i_0, and_self, and_true, true_and]
    cases rwM g s <;> cases rwM g t <;> cases ali C (nmM g) n s t <;> simp [hs, ht]
  have hx : ∀ k, k ≤ 16 → (∀ s, s < 16 - k → al (fun i => !(rwM g s && rwM g (s + 1 + i) && ali C (nmM g) n s (s + 1 + i))) (15 - s) = true) → Rn (T_X5_isKey E ev_X5_isKey) K_X5_isKey 2 [some (.inr (some 51)), some (.inl (nI n)), some (.inl (nI (16 - k)))] [] g (some (.inl (b2i (keyB C (rwM g) (nmM g) n))), g) := by
    intro k
    induction k with
    | zero =>
      intro _ hall
      refine Rn_ret ?_
      rw [blk_X5_isKey_2, if_pos (nI_le (by omega) (by decide)), show keyB C (rwM g) (nmM g) n = true from al_iff.mpr hall]
      rfl
    | succ k ih =>
      intro hk hall
      generalize hs : 16 - (k + 1) = s at *
      refine Rn_go (by rw [blk_X5_isKey_2, if_neg (nI_ge (show s < 16 by omega) (by decide)), nI_add]) ?_
      refine Rn_loopE (fun i => !(rwM g s && rwM g (s + 1 + i) && ali C (nmM g) n s (s + 1 + i))) (fun i => [some (.inr (some 51)), some (.inl (nI n)), some (.inl (nI s)), some (.inl (nI (s + 1 + i)))]) (fun _ => g) (15 - s) (fun i hi hp => ?_) (fun i hi hp _ => Rn_ret ?_) (fun hp => ?_)
      · rw [step s (s + 1 + i) (by omega) (by omega), if_pos hp]
        rfl
      · rw [step s (s + 1 + i) (by omega) (by omega), if_neg (by rw [hp]; decide)]
        have f1 : al (fun i => !(rwM g s && rwM g (s + 1 + i) && ali C (nmM g) n s (s + 1 + i))) (15 - s) = false := al_f hi hp
        rw [show keyB C (rwM g) (nmM g) n = false from al_f (c := s) (by omega) f1]
        rfl
      · refine Rn_go (pc' := 2) (by rw [blk_X5_isKey_12, if_pos (nI_le (by omega) (by omega)), nI_add]) ?_
        have := ih (by omega) (fun s' hs' => by
          rcases Nat.lt_or_ge s' s with w | w
          · exact hall s' w
          · rw [show s' = s by omega]
            exact al_iff.mpr hp)
        rw [show 16 - k = s + 1 by omega] at this
        exact this
  exact hx 16 (Nat.le_refl _) (fun s hs => by omega)
theorem part_iff : ∀ p, p < 16 → ∀ n, n < 16 → ((nI p &&& (nI n ^^^ (-1)) = 0) ↔ p &&& (15 - n) = 0) := by decide +kernel
theorem run_X5_isLeastKey (E : Ex) (g : Sg) (a1 : Int32) (h : (inB a1 16 && gM g) = true) : Rn (T_X5_isLeastKey E ev_X5_isLeastKey) K_X5_isLeastKey 0 [some (.inr (some 51)), some (.inl a1)] [] g (some (.inl (b2i (lkB (tn (g 52 128)) (rwM g) (nmM g) (tn a1)))), g) := by
  have h0 := h
  rw [Bool.and_eq_true] at h
  obtain ⟨n, hn, rfl⟩ := (inB_iff (by decide)).mp h.1
  obtain ⟨C, hC5, e⟩ := (inB_iff (by decide)).mp h.2
  have hb0 := blk_X5_isLeastKey_0 E g (nI n)
  rw [if_pos h0, e, tn_nI' (by omega), tn_nI' (by omega)] at hb0
  rw [e, tn_nI' (by omega), tn_nI' (by omega)]
  unfold lkB
  cases hk : keyB C (rwM g) (nmM g) n with
  | false =>
    refine Rn_ret ?_
    rw [hb0, hk]; rfl
  | true =>
  refine Rn_go (by rw [hb0, hk]; rfl) ?_
  have step : ∀ p, p < n → seg (T_X5_isLeastKey E ev_X5_isLeastKey) K_X5_isLeastKey 2000 12 [some (.inr (some 51)), some (.inl (nI n)), some (.inl (nI p))] [] g = if (!(decide (p &&& (15 - n) = 0) && keyB C (rwM g) (nmM g) p)) = true then some (.inr (12, [some (.inr (some 51)), some (.inl (nI n)), some (.inl (nI (p + 1)))], [], g)) else some (.inl (some (.inl (nI 0)), g)) := by
    intro p hp
    have hpi := part_iff p (by omega) n hn
    rw [blk_X5_isLeastKey_12, e, h.2]
    simp (disch := omega) only [nI_leI, nI_ltI, nI_eq, tn_nI, tn_nI', inB_eq, decide_eq_true_eq, Bool.and_eq_true, decide_true, Bool.and_true, Bool.true_and, Bool.and_self, nI_add, pk_mul, fiv_eq, if_pos, if_neg, ↓reduceIte, b2i_0, and_self, and_true, true_and]
    by_cases k1 : p &&& (15 - n) = 0
    · rw [if_pos (hpi.mpr k1)]
      cases keyB C (rwM g) (nmM g) p <;> simp [k1]
    · rw [if_neg (fun z => k1 (hpi.mp z))]
      simp [k1]
  simp only [Bool.true_and]
  refine Rn_loopE (fun p => !(decide (p &&& (15 - n) = 0) && keyB C (rwM g) (nmM g) p)) (fun p => [some (.inr (some 51)), some (.inl (nI n)), some (.inl (nI p))]) (fun _ => g) n (fun p hp hq => ?_) (fun p hp hq _ => Rn_ret ?_) (fun hq => Rn_ret ?_)
  · rw [step p hp, if_pos hq]
  · rw [step p hp, if_neg (by rw [hq]; decide), al_f hp hq]; rfl
  · rw [blk_X5_isLeastKey_12, if_pos (nI_le (by omega) (by omega)), al_iff.mpr hq]; rfl
theorem run_X5_keys (E : Ex) (g : Sg) (h : (gM g) = true) : Rn (T_X5_keys E ev_X5_keys) K_X5_keys 0 [some (.inr (some 51))] [] g (some (.inl (nI (sm (fun n => ct1 (lkB (tn (g 52 128)) (rwM g) (nmM g) n)) (2 ^ tn (g 52 128))))), g) := by
  obtain ⟨C, hC5, e⟩ := (inB_iff (by decide)).mp h
  have hp := pow2_b hC5
  rw [e, tn_nI' (by omega)]
  refine Rn_go (blk_X5_keys_0 E g) ?_
  refine Rn_loop (fun n => [some (.inr (some 51)), some (.inl (nI (sm (fun n => ct1 (lkB C (rwM g) (nmM g) n)) n))), some (.inl (nI n))]) (fun _ => g) (2 ^ C) (fun n hn => ?_) (Rn_ret ?_)
  · rw [blk_X5_keys_4, e, shl1 C (by omega), h]
    simp (disch := omega) only [nI_leI, nI_ltI, nI_eq, tn_nI, tn_nI', inB_eq, decide_eq_true_eq, Bool.and_eq_true, decide_true, Bool.and_true, Bool.true_and, Bool.and_self, nI_add, pk_mul, fiv_eq, if_pos, if_neg, ↓reduceIte, b2i_0, and_self, and_true, true_and]
    simp only [sm]
    cases lkB C (rwM g) (nmM g) n <;> simp [ct1_t, ct1_f]
  · rw [blk_X5_keys_4, e, shl1 C (by omega), if_pos (nI_le (by omega) (by omega))]
theorem run_X5_key (E : Ex) (g : Sg) (a1 : Int32) (h : (gM g) = true) : Rn (T_X5_key E ev_X5_key) K_X5_key 0 [some (.inr (some 51)), some (.inl a1)] [] g (some (.inl (if 0 ≤ a1 then finV (fin (lkB (tn (g 52 128)) (rwM g) (nmM g)) (2 ^ tn (g 52 128)) 0 (tn a1)) else -1)), g) := by
  obtain ⟨C, hC5, e⟩ := (inB_iff (by decide)).mp h
  have hp := pow2_b hC5
  refine Rn_go (blk_X5_key_0 E g _) ?_
  rw [e, tn_nI' (by omega)]
  by_cases k0 : 0 ≤ a1
  · obtain ⟨k, hk, rfl⟩ := ge0_nI k0
    rw [if_pos k0, tn_nI' (by omega)]
    have step : ∀ t b, t < 2 ^ C → b ≤ k → seg (T_X5_key E ev_X5_key) K_X5_key 2000 4 [some (.inr (some 51)), some (.inl (nI k)), some (.inl (nI (k - b))), some (.inl (nI t))] [] g = if lkB C (rwM g) (nmM g) t = true then (if b = 0 then some (.inl (some (.inl (nI t)), g)) else some (.inr (4, [some (.inr (some 51)), some (.inl (nI k)), some (.inl (nI (k - b + 1))), some (.inl (nI (t + 1)))], [], g))) else some (.inr (4, [some (.inr (some 51)), some (.inl (nI k)), some (.inl (nI (k - b))), some (.inl (nI (t + 1)))], [], g)) := by
      intro t b ht hb
      rw [blk_X5_key_4, e, shl1 C (by omega), h]
      simp (disch := omega) only [nI_leI, nI_ltI, nI_eq, tn_nI, tn_nI', inB_eq, decide_eq_true_eq, Bool.and_eq_true, decide_true, Bool.and_true, Bool.true_and, Bool.and_self, nI_add, pk_mul, fiv_eq, if_pos, if_neg, ↓reduceIte, b2i_0, and_self, and_true, true_and]
      by_cases b0 : b = 0
      · subst b0
        cases lkB C (rwM g) (nmM g) t <;> simp
      · have b1 : ¬ k - b = k := by omega
        cases lkB C (rwM g) (nmM g) t <;> simp [b0, b1]
    generalize hr : fin (lkB C (rwM g) (nmM g)) (2 ^ C) 0 k = r
    have := Rn_fin (T := T_X5_key E ev_X5_key) (K := K_X5_key) (pc := 4) (o := (some (.inl (finV r)), g)) (lkB C (rwM g) (nmM g)) (fun t b => [some (.inr (some 51)), some (.inl (nI k)), some (.inl (nI (k - b))), some (.inl (nI t))]) g (2 ^ C) k r ?_ ?_ ?_ ?_ (2 ^ C) 0 k (by omega) (Nat.le_refl _) hr
    · rw [Nat.sub_self] at this
      exact this
    · intro t b ht hb hp
      rw [step t b ht hb, if_neg (by rw [hp]; decide)]
    · intro t b ht hb hp
      rw [step t (b + 1) ht hb, if_pos hp, if_neg (by omega), show k - (b + 1) + 1 = k - b by omega]
    · intro t ht hp hrt
      refine Rn_ret ?_
      rw [step t 0 ht (by omega), if_pos hp, if_pos rfl, hrt]
      rfl
    · intro b hb hrb
      refine Rn_ret ?_
      rw [blk_X5_key_4, e, shl1 C (by omega), hrb, if_pos (nI_le (by omega) (by omega))]
      rfl
  · rw [if_neg k0]
    refine Rn_loop (fun n => [some (.inr (some 51)), some (.inl a1), some (.inl (nI (sm (fun n => ct1 (lkB C (rwM g) (nmM g) n)) n))), some (.inl (nI n))]) (fun _ => g) (2 ^ C) (fun n hn => ?_) (Rn_ret ?_)
    · have hne : ¬ nI (sm (fun n => ct1 (lkB C (rwM g) (nmM g) n)) n) = a1 := by
        intro z
        have hl : sm (fun n => ct1 (lkB C (rwM g) (nmM g) n)) n ≤ n * 1 := sm_le (fun i _ => ct1_le _)
        exact k0 (by rw [← z]; exact nI_pos' (by omega))
      rw [blk_X5_key_4, e, shl1 C (by omega), h]
      simp (disch := omega) only [nI_leI, nI_ltI, nI_eq, tn_nI, tn_nI', inB_eq, decide_eq_true_eq, Bool.and_eq_true, decide_true, Bool.and_true, Bool.true_and, Bool.and_self, nI_add, pk_mul, fiv_eq, if_pos, if_neg, ↓reduceIte, b2i_0, and_self, and_true, true_and]
      simp only [sm]
      cases lkB C (rwM g) (nmM g) n <;> simp [ct1_t, ct1_f, hne]
    · rw [blk_X5_key_4, e, shl1 C (by omega), if_pos (nI_le (by omega) (by omega))]
