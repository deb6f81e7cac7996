/-! THE MODEL'S MENDING -/
theorem nI_z {n : Nat} (h : n < 2 ^ 31) : nI n = 0 ↔ n = 0 := nI_eq h (show (0 : Nat) < 2 ^ 31 by decide)
theorem run_X5_conflicts (E : Ex) (g : Sg) (h : (gM g && toldM g) = true) : Rn (T_X5_conflicts E ev_X5_conflicts) K_X5_conflicts 0 [some (.inr (some 51))] [] g (some (.inl (nI (cnP (b1M g) 16 0))), (us g 57 (foF (b1M g) (g 57) 16 0))) := by
  rw [Bool.and_eq_true] at h
  have hC : inB (g 52 128) 5 = true := h.1
  refine Rn_go (blk_X5_conflicts_0 E g) ?_
  generalize ho : ((some (.inl (nI (cnP (b1M g) 16 0))), (us g 57 (foF (b1M g) (g 57) 16 0))) : Option AV × Sg) = o
  have l1 := Rn_loop (T := T_X5_conflicts E ev_X5_conflicts) (K := K_X5_conflicts) (pc := 4) (o := o) (fun j => [some (.inr (some 51)), some (.inl (nI 0)), some (.inl (nI j))]) (fun j => us g 57 (filF (g 57) j (nI 0))) 16 (fun j hj => ?_) ?_
  · have e1 : filF (g 57) 0 (nI 0) = g 57 := by funext j; simp [filF]
    rw [e1, us_id] at l1
    exact l1
  · rw [blk_X5_conflicts_4]
    simp (disch := omega) only [nI_leI, nI_ltI, nI_eq, tn_nI, tn_nI', inB_eq, decide_eq_true_eq, Bool.and_eq_true, decide_true, Bool.and_true, Bool.true_and, Bool.and_self, nI_add, pk_mul, fiv_eq, if_pos, if_neg, ↓reduceIte, b2i_0, and_self, and_true, true_and, us_s, us_us]
    rw [fil_step]
  refine Rn_go (by rw [blk_X5_conflicts_4, if_pos (nI_le (by omega) (by decide))]) ?_
  have hF0 : filF (g 57) 16 (nI 0) = foF (b1M g) (g 57) 0 1 := by
    funext x
    unfold filF foF
    by_cases hx : x < 16
    · rw [if_pos hx, if_pos hx]
      congr 1
      have : mskN (FP (b1M g) 0 1 x) 16 = mskN (fun _ => false) 16 := msk_congr fun y hy => by
        unfold FP
        by_cases h1 : x = y
        · simp [h1]
        · by_cases h2 : min x y = 0
          · have : ¬ max x y < 1 := by omega
            simp [h2, this]
          · have : ¬ min x y < 0 := by omega
            simp [h2]
      rw [this]
      rfl
    · rw [if_neg hx, if_neg hx]
  rw [hF0]
  have hx : ∀ k, k ≤ 16 → Rn (T_X5_conflicts E ev_X5_conflicts) K_X5_conflicts 25 [some (.inr (some 51)), some (.inl (nI (cnP (b1M g) (16 - k) 0))), some (.inl (nI (16 - k)))] [] (us g 57 (foF (b1M g) (g 57) (16 - k) (16 - k + 1))) o := by
    intro k
    induction k with
    | zero =>
      intro _
      refine Rn_ret ?_
      have hFe : foF (b1M g) (g 57) 16 17 = foF (b1M g) (g 57) 16 0 := by
        funext x
        unfold foF
        by_cases hx : x < 16
        · rw [if_pos hx, if_pos hx]
          congr 1
          exact msk_congr fun y hy => by
            unfold FP
            have : min x y < 16 := by omega
            simp [this]
        · rw [if_neg hx, if_neg hx]
      rw [blk_X5_conflicts_25, if_pos (nI_le (by omega) (by decide)), Nat.sub_zero, hFe, ← ho]
    | succ k ih =>
      intro hk
      have nxt := ih (by omega)
      rw [show 16 - k = 16 - (k + 1) + 1 by omega] at nxt
      generalize hs : 16 - (k + 1) = s at nxt ⊢
      have hs16 : s < 16 := by omega
      refine Rn_go (by rw [blk_X5_conflicts_25, if_neg (nI_ge hs16 (by decide)), nI_add]) ?_
      have hy : ∀ m, m ≤ 15 - s → Rn (T_X5_conflicts E ev_X5_conflicts) K_X5_conflicts 35 [some (.inr (some 51)), some (.inl (nI (cnP (b1M g) s (15 - s - m)))), some (.inl (nI s)), some (.inl (nI (s + 1 + (15 - s - m))))] [] (us g 57 (foF (b1M g) (g 57) s (s + 1 + (15 - s - m)))) o := by
        intro m
        induction m with
        | zero =>
          intro _
          rw [Nat.sub_zero]
          refine Rn_go (pc' := 25) (by rw [blk_X5_conflicts_35, if_pos (nI_le (by omega) (by omega)), nI_add]) ?_
          have c2 : cnP (b1M g) s (15 - s) = cnP (b1M g) (s + 1) 0 := by
            unfold cnP
            simp only [sm]
            omega
          rw [c2, show s + 1 + (15 - s) = 16 by omega, foF_next]
          exact nxt
        | succ m ihm =>
          intro hm
          have nx2 := ihm (by omega)
          rw [show 15 - s - m = 15 - s - (m + 1) + 1 by omega] at nx2
          generalize hi : 15 - s - (m + 1) = i at nx2 ⊢
          have hi16 : s + 1 + i < 16 := by omega
          refine Rn_go (by rw [blk_X5_conflicts_35, if_neg (nI_ge hi16 (by decide))]) ?_
          let q : Nat → Bool := fun i' => !(!decide (g 52 (129 + i') = 0) && brB (tn (g 52 128)) (rwM g) (nmM g) (tn (g 52 (129 + i'))) s (s + 1 + i))
          have r1 : ∀ a, rwM (us g 57 a) = rwM g := fun a => rfl
          have r2 : ∀ a, nmM (us g 57 a) = nmM g := fun a => rfl
          have r3 : ∀ a, us g 57 a 52 = g 52 := fun a => rfl
          have r4 : ∀ a, us g 57 a 57 = a := fun a => rfl
          have l3 := Rn_loop (T := T_X5_conflicts E ev_X5_conflicts) (K := K_X5_conflicts) (pc := 47) (o := o) (fun c => [some (.inr (some 51)), some (.inl (nI (cnP (b1M g) s i))), some (.inl (nI s)), some (.inl (nI (s + 1 + i))), some (.inl (b2i (!al q c))), some (.inl (nI c))]) (fun _ => us g 57 (foF (b1M g) (g 57) s (s + 1 + i))) 4 (fun c hc => ?_) ?_
          · exact l3
          · have hto := al_iff.mp h.2 c hc
            rw [blk_X5_conflicts_47, r1, r2, r3, hC, if_neg (nI_ge hc (by decide))]
            simp (disch := omega) only [nI_leI, nI_ltI, nI_eq, tn_nI, tn_nI', inB_eq, decide_eq_true_eq, Bool.and_eq_true, decide_true, Bool.and_true, Bool.true_and, Bool.and_self, nI_add, pk_mul, fiv_eq, if_pos, if_neg, ↓reduceIte, b2i_0, and_self, and_true, true_and]
            have hq : al q (c + 1) = (al q c && q c) := rfl
            have hqc : q c = !(!decide (g 52 (129 + c) = 0) && brB (tn (g 52 128)) (rwM g) (nmM g) (tn (g 52 (129 + c))) s (s + 1 + i)) := rfl
            rw [hq]
            cases ha : al q c with
            | false => simp [b2i, nI]
            | true =>
              rw [hqc]
              by_cases k0 : g 52 (129 + c) = 0
              · simp [k0, hc, b2i, nI]
              · cases hb : brB (tn (g 52 128)) (rwM g) (nmM g) (tn (g 52 (129 + c))) s (s + 1 + i) <;> simp [k0, hc, hs16, hi16, hto, hb, b2i, nI]
          · have c1 : cnP (b1M g) s (i + 1) = cnP (b1M g) s i + ct1 (b1M g s (s + 1 + i)) := by
              unfold cnP
              simp only [sm]
              omega
            refine Rn_go ?_ nx2
            have hb1 : (!al q 4) = b1M g s (s + 1 + i) := rfl
            rw [blk_X5_conflicts_47, if_pos (nI_le (by omega) (by decide)), hb1, r4, shl1 s (by omega), shl1 (s + 1 + i) (by omega), c1]
            simp (disch := omega) only [nI_leI, nI_ltI, nI_eq, tn_nI, tn_nI', inB_eq, decide_eq_true_eq, Bool.and_eq_true, decide_true, Bool.and_true, Bool.true_and, Bool.and_self, nI_add, pk_mul, fiv_eq, if_pos, if_neg, ↓reduceIte, b2i_0, and_self, and_true, true_and]
            cases hb : b1M g s (s + 1 + i) with
            | false =>
              rw [foF_skip (t := s + 1 + i) (g 57) (by omega) hb]
              simp [ct1_f, b2i]
              exact ⟨rfl, rfl⟩
            | true =>
              rw [us_us, us_us, foF_hit (g 57) (by omega) (by omega) hb]
              simp [hs16, hi16, ct1_t, b2i]
              exact ⟨rfl, rfl⟩
      exact hy (15 - s) (Nat.le_refl _) |> (by simpa using ·)
  exact hx 16 (Nat.le_refl _)
theorem msk_add (P : Nat → Bool) (j : Nat) : mskN P j ||| 2 ^ j = mskN P j + 2 ^ j := by
  have := Nat.two_pow_add_eq_or_of_lt (msk_lt P j) 1
  rw [Nat.mul_one] at this
  rw [Nat.or_comm, ← this, Nat.add_comm]
theorem run_X5_mend (E : Ex) (g : Sg) (a1 : Int32) (h : (gM g && toldM g && isOK g) = true) : Rn (T_X5_mend E ev_X5_mend) K_X5_mend 0 [some (.inr (some 51)), some (.inl a1)] [] g (some (.inl (if isI a1 0 2 = true then mmV g a1 else -1)), (if isI a1 0 2 = true then cfM g else g)) := by
  rw [Bool.and_eq_true] at h
  have z0 : nI 0 = 0 := rfl
  have z2 : nI 2 = 2 := rfl
  cases hb : isI a1 0 2 with
  | false =>
    refine Rn_ret ?_
    rw [blk_X5_mend_0, z0, z2, hb]
    rfl
  | true =>
    by_cases w2 : a1 = 2
    · refine Rn_ret ?_
      rw [blk_X5_mend_0, z0, z2, hb, h.1, w2]
      rfl
    · refine Rn_go (by rw [blk_X5_mend_0, z0, z2, hb, h.1, if_neg (by decide), if_pos rfl, if_neg w2]) ?_
      have hmm : mmV g a1 = if a1 = 0 then (mbP g 65536).2 else (mbP g 65536).1 := by
        unfold mmV
        rw [if_neg w2]
      rw [if_pos rfl, if_pos rfl, hmm]
      show Rn (T_X5_mend E ev_X5_mend) K_X5_mend 28 [some (.inr (some 51)), some (.inl a1), some (.inl (nI (cnP (b1M g) 16 0))), some (.inl (nI 0)), some (.inl (nI 0))] [] (cfM g) _
      have r1 : (cfM g) 52 = g 52 := rfl
      have r2 : ∀ s, s < 16 → (cfM g) 57 s = nI (mskN (FP (b1M g) 16 0 s) 16) := fun s hs => by
        show foF (b1M g) (g 57) 16 0 s = _
        unfold foF
        rw [if_pos hs]
      generalize nI (cnP (b1M g) 16 0) = cn
      generalize ho : ((some (.inl (if a1 = 0 then (mbP g 65536).2 else (mbP g 65536).1)), cfM g) : Option AV × Sg) = o
      refine Rn_loop (T := T_X5_mend E ev_X5_mend) (K := K_X5_mend) (pc := 28) (o := o) (fun j => [some (.inr (some 51)), some (.inl a1), some (.inl cn), some (.inl (nI (mskN (rwM g) j))), some (.inl (nI j))]) (fun _ => cfM g) 16 (fun j hj => ?_) ?_
      · have hi := isB_cases (al_iff.mp h.2 j hj)
        have e1 : mskN (rwM g) (j + 1) = mskN (rwM g) j + (if rwM g j = true then 2 ^ j else 0) := rfl
        have hr : rwM g j = decide (g 52 (8 * j) = 1) := rfl
        rw [blk_X5_mend_28, r1, e1, hr]
        simp (disch := omega) only [nI_leI, nI_ltI, nI_eq, tn_nI, tn_nI', inB_eq, decide_eq_true_eq, Bool.and_eq_true, decide_true, Bool.and_true, Bool.true_and, Bool.and_self, nI_add, pk_mul, fiv_eq, if_pos, if_neg, ↓reduceIte, b2i_0, and_self, and_true, true_and, Nat.add_zero]
        rcases hi with q | q
        · have e2 : (0 : Int32) <<< (nI j &&& nI 31) = 0 := by
            have : ∀ c, c < 16 → (0 : Int32) <<< (nI c &&& nI 31) = 0 := by decide +kernel
            exact this j hj
          rw [q, e2]
          simp
        · have e2 : (1 : Int32) <<< (nI j &&& nI 31) = nI (2 ^ j) := shl1 j (by omega)
          rw [q, e2, nI_or, msk_add]
          simp
      refine Rn_go (by rw [blk_X5_mend_28, if_pos (nI_le (by omega) (by decide))]) ?_
      have hx : ∀ k, k ≤ 65536 → Rn (T_X5_mend E ev_X5_mend) K_X5_mend 63 [some (.inr (some 51)), some (.inl a1), some (.inl cn), some (.inl (nI (mskN (rwM g) 16))), some (.inl (mbP g (65536 - k)).1), some (.inl (mbP g (65536 - k)).2), some (.inl (nI (65536 - k)))] [] (cfM g) o := by
        intro k
        induction k with
        | zero =>
          intro _
          refine Rn_ret ?_
          rw [blk_X5_mend_63, Nat.sub_zero, if_pos (nI_le (by omega) (by decide)), ← ho]
          by_cases w0 : a1 = 0
          · rw [if_pos w0, if_pos w0]
          · rw [if_neg w0, if_neg w0]
        | succ k ih =>
          intro hk
          have nxt := ih (by omega)
          rw [show 65536 - k = 65536 - (k + 1) + 1 by omega] at nxt
          generalize hs : 65536 - (k + 1) = n at nxt ⊢
          have hn : n < 65536 := by omega
          have es : mbP g (n + 1) = if (okS g (cfM g 57) n && (decide ((mbP g n).1 = -1) || decide (wsI (prM3 g) n 16 < (mbP g n).2))) = true then (nI n, wsI (prM3 g) n 16) else mbP g n := rfl
          have hbl := blk_X5_mend_63 E (cfM g) a1 cn (nI (mskN (rwM g) 16)) (mbP g n).1 (mbP g n).2 (nI n)
          rw [if_neg (nI_ge hn (by decide)), nI_andn hn] at hbl
          have hz := nI_z (n := n &&& (65535 ^^^ mskN (rwM g) 16)) (by have := and_leL n (65535 ^^^ mskN (rwM g) 16); omega)
          have ok : okS g (cfM g 57) n = (decide (n &&& (65535 ^^^ mskN (rwM g) 16) = 0) && gdB (cfM g 57) n 16) := rfl
          by_cases hsub : n &&& (65535 ^^^ mskN (rwM g) 16) = 0
          · rw [if_pos (hz.mpr hsub)] at hbl
            refine Rn_go hbl ?_
            refine Rn_loop (T := T_X5_mend E ev_X5_mend) (K := K_X5_mend) (pc := 91) (o := o) (fun j => [some (.inr (some 51)), some (.inl a1), some (.inl cn), some (.inl (nI (mskN (rwM g) 16))), some (.inl (mbP g n).1), some (.inl (mbP g n).2), some (.inl (nI n)), some (.inl (wsI (prM3 g) n j)), some (.inl (b2i (gdB (cfM g 57) n j))), some (.inl (nI j))]) (fun _ => cfM g) 16 (fun j hj => ?_) ?_
            · have hm := msk_lt (FP (b1M g) 16 0 j) 16
              have hz2 := nI_z (n := mskN (FP (b1M g) 16 0 j) 16 &&& (65535 ^^^ n)) (by have := and_leL (mskN (FP (b1M g) 16 0 j) 16) (65535 ^^^ n); omega)
              have eg : gdB (cfM g 57) n (j + 1) = (gdB (cfM g 57) n j && (bit n j || decide (tn (cfM g 57 j) &&& (65535 ^^^ n) = 0))) := rfl
              have ew : wsI (prM3 g) n (j + 1) = if n / 2 ^ j % 2 = 1 then wsI (prM3 g) n j + prM3 g j else wsI (prM3 g) n j := rfl
              have ep : prM3 g j = g 52 (8 * j + 3) := rfl
              have eb : bit n j = decide (n / 2 ^ j % 2 = 1) := rfl
              rw [blk_X5_mend_91, shr_bit hn hj, r1, eg, ew, eb, ep]
              simp (disch := omega) only [nI_leI, nI_ltI, nI_eq, tn_nI, tn_nI', inB_eq, decide_eq_true_eq, Bool.and_eq_true, decide_true, Bool.and_true, Bool.true_and, Bool.and_self, nI_add, pk_mul, fiv_eq, if_pos, if_neg, ↓reduceIte, b2i_0, and_self, and_true, true_and]
              rw [r2 j hj, nI_andn hm, tn_nI' (by omega)]
              by_cases kb : n / 2 ^ j % 2 = 1
              · simp [kb]
              · cases hg : gdB (cfM g 57) n j with
                | false => simp [kb, b2i, z0]
                | true =>
                  by_cases ka : mskN (FP (b1M g) 16 0 j) 16 &&& (65535 ^^^ n) = 0
                  · simp [kb, b2i, ka, hj]
                    rfl
                  · simp [kb, b2i, hz2, ka, hj, z0]
            · refine Rn_go ?_ nxt
              rw [blk_X5_mend_91, if_pos (nI_le (by omega) (by decide)), es, ok, nI_add]
              cases hg : gdB (cfM g 57) n 16 with
              | false => simp [hsub, b2i]
              | true =>
                by_cases k1 : (mbP g n).1 = -1
                · simp [hsub, b2i, k1]
                · by_cases k2 : wsI (prM3 g) n 16 < (mbP g n).2
                  · simp [hsub, b2i, k1, k2]
                  · simp [hsub, b2i, k1, k2]
          · rw [if_neg (fun q => hsub (hz.mp q)), nI_add] at hbl
            refine Rn_go hbl ?_
            rw [es, ok, decide_eq_false hsub] at nxt
            exact nxt
      exact hx 65536 (Nat.le_refl _)
