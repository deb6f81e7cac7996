/-! RUNS: the model's put and swap -/
theorem wr1_c {x v : Int32} {n i : Nat} (hn : n ≤ 4) (hi : i < 4) (e : x = nI n) (ii : Int32) (hii : ii = nI i) : (if n ≤ i then nI 1000 else if v = nI 100 then nI 1000 else v) = wr1 (if x ≤ ii then 100 else v) := by
  subst e hii
  unfold wr1
  simp (disch := omega) only [nI_leI, nI_ltI, nI_eq, tn_nI, tn_nI', inB_eq, decide_eq_true_eq, Bool.and_eq_true, decide_true, Bool.and_true, Bool.true_and, Bool.and_self, nI_add, pk_mul, fiv_eq, if_pos, if_neg, ↓reduceIte, b2i_0, and_self, and_true, true_and]
  by_cases c : n ≤ i
  · rw [if_pos c, if_pos c, if_pos rfl]; rfl
  · rw [if_neg c, if_neg c]
    by_cases c2 : v = 100
    · rw [if_pos (show v = nI 100 from c2), if_pos c2]; rfl
    · rw [if_neg (show ¬ v = nI 100 from c2), if_neg c2]
theorem run_X5_put (E : Ex) (g : Sg) (a1 a2 a3 a4 a5 a6 a7 : Int32) (h : (gK g) = true) : Rn (T_X5_put E ev_X5_put) K_X5_put 0 [some (.inr (some 51)), some (.inl a1), some (.inl a2), some (.inl a3), some (.inl a4), some (.inl a5), some (.inl a6), some (.inl a7)] [] g (some (.inl (b2i (putB a1 a2 a3 a4 a5 a6 a7))), (if putB a1 a2 a3 a4 a5 a6 a7 = true then putM g a1 a2 a3 a4 a5 a6 a7 else g)) := by
  have i4 : ∀ x, isI x (nI 0) (nI 4) = isI x 0 4 := fun x => rfl
  unfold putB
  cases h1 : inB a1 16 with
  | false =>
    refine Rn_ret ?_
    rw [blk_X5_put_0, isI_inB, h1]; rfl
  | true =>
  cases h2 : isI a2 0 4 with
  | false =>
    refine Rn_ret ?_
    rw [blk_X5_put_0, isI_inB, h1, i4, i4, h2]; rfl
  | true =>
  cases h3 : isI a3 0 4 with
  | false =>
    refine Rn_ret ?_
    rw [blk_X5_put_0, isI_inB, h1, i4, i4, h2, h3]; rfl
  | true =>
  refine Rn_go (pc' := 30) (by rw [blk_X5_put_0, isI_inB, h1, i4, i4, h2, h3]; rfl) ?_
  obtain ⟨n, hn, rfl⟩ : ∃ n, n ≤ 4 ∧ a3 = nI n := by
    have : isI a3 0 4 = inB a3 5 := isI_in (n := 5) (by decide) (by decide) a3
    rw [this] at h3
    obtain ⟨n, hn, e⟩ := (inB_iff (by decide)).mp h3
    exact ⟨n, by omega, e⟩
  have bad : ∀ x1 : Int32, Rn (T_X5_put E ev_X5_put) K_X5_put 93 [some (.inr (some 51)), some (.inl x1), some (.inl a2), some (.inl (nI n)), some (.inl a4), some (.inl a5), some (.inl a6), some (.inl a7), some (.inl (nI 0))] [] g (some (.inl (nI 0)), g) := fun x1 => Rn_ret (by rw [blk_X5_put_93, if_pos (show nI 0 = 0 from rfl)])
  have dl : ∀ i, i < 4 → (nI n < nI (i + 1) ↔ nI n ≤ nI i) := by
    intro i hi
    rw [nI_ltI (by omega) (by omega), nI_leI (by omega) (by omega)]
    omega
  cases f1 : (decide (nI n ≤ 0) || fitB a2 a4) with
  | false =>
    simp only [Bool.or_eq_false_iff, decide_eq_false_iff_not] at f1
    refine Rn_go (by rw [blk_X5_put_30, if_neg (fun z => f1.1 ((dl 0 (by decide)).mp z)), f1.2]; rfl) ?_
    exact bad a1
  | true =>
  refine Rn_go (pc' := 44) (by
    rw [blk_X5_put_30]
    simp only [Bool.or_eq_true, decide_eq_true_eq] at f1
    rcases f1 with q | q
    · rw [if_pos ((dl 0 (by decide)).mpr q)]
    · rw [q]; split <;> rfl) ?_
  cases f2 : (decide (nI n ≤ 1) || fitB a2 a5) with
  | false =>
    simp only [Bool.or_eq_false_iff, decide_eq_false_iff_not] at f2
    refine Rn_go (by rw [blk_X5_put_44, if_neg (fun z => f2.1 ((dl 1 (by decide)).mp z)), f2.2]; rfl) ?_
    exact bad a1
  | true =>
  refine Rn_go (pc' := 58) (by
    rw [blk_X5_put_44]
    simp only [Bool.or_eq_true, decide_eq_true_eq] at f2
    rcases f2 with q | q
    · rw [if_pos ((dl 1 (by decide)).mpr q)]
    · rw [q]; split <;> rfl) ?_
  cases f3 : (decide (nI n ≤ 2) || fitB a2 a6) with
  | false =>
    simp only [Bool.or_eq_false_iff, decide_eq_false_iff_not] at f3
    refine Rn_go (by rw [blk_X5_put_58, if_neg (fun z => f3.1 ((dl 2 (by decide)).mp z)), f3.2]; rfl) ?_
    exact bad a1
  | true =>
  refine Rn_go (pc' := 72) (by
    rw [blk_X5_put_58]
    simp only [Bool.or_eq_true, decide_eq_true_eq] at f3
    rcases f3 with q | q
    · rw [if_pos ((dl 2 (by decide)).mpr q)]
    · rw [q]; split <;> rfl) ?_
  cases f4 : (decide (nI n ≤ 3) || fitB a2 a7) with
  | false =>
    simp only [Bool.or_eq_false_iff, decide_eq_false_iff_not] at f4
    refine Rn_go (by rw [blk_X5_put_72, if_neg (fun z => f4.1 ((dl 3 (by decide)).mp z)), f4.2]; rfl) ?_
    exact bad a1
  | true =>
  refine Rn_go (pc' := 93) (by
    rw [blk_X5_put_72]
    simp only [Bool.or_eq_true, decide_eq_true_eq] at f4
    rcases f4 with q | q
    · rw [if_pos ((dl 3 (by decide)).mpr q)]
    · rw [q]; split <;> rfl) ?_
  refine Rn_go (pc' := 100) (by rw [blk_X5_put_93, if_neg (by decide)]) ?_
  obtain ⟨s, hs, rfl⟩ := (inB_iff (by decide)).mp h1
  simp only [Bool.and_self, if_true]
  unfold putM
  rw [tn_nI' (by omega)]
  generalize hB : upd (upd (upd (upd (keepM g 52) (8 * s + 0) 1) (8 * s + 1) a2) (8 * s + 2) (nI n)) (8 * s + 3) 1 = B
  refine Rn_go (pc' := 135) (L' := [some (.inr (some 51)), some (.inl (nI s)), some (.inl a2), some (.inl (nI n)), some (.inl a4), some (.inl a5), some (.inl a6), some (.inl a7), none, some (.inl (nI 0))]) (st' := []) (g' := us (keepM g) 52 B) (by
    rw [blk_X5_put_100, if_pos h, ← hB]
    simp (disch := omega) only [nI_leI, nI_ltI, nI_eq, tn_nI, tn_nI', inB_eq, decide_eq_true_eq, Bool.and_eq_true, decide_true, Bool.and_true, Bool.true_and, Bool.and_self, nI_add, pk_mul, fiv_eq, if_pos, if_neg, ↓reduceIte, b2i_0, and_self, and_true, true_and]
    rw [us_us, us_us, us_us, us_s, us_s, us_s]
    rfl) ?_
  have step : ∀ (F : Nat → Int32) (i : Nat) (v : Int32), i < 4 → ((i = 0 → v = a4) ∧ (i = 1 → v = a5) ∧ (i = 2 → v = a6) ∧ (i = 3 → v = a7)) → seg (T_X5_put E ev_X5_put) K_X5_put 2000 135 [some (.inr (some 51)), some (.inl (nI s)), some (.inl a2), some (.inl (nI n)), some (.inl a4), some (.inl a5), some (.inl a6), some (.inl a7), none, some (.inl (nI i))] [] (us (keepM g) 52 F) = some (.inr (135, [some (.inr (some 51)), some (.inl (nI s)), some (.inl a2), some (.inl (nI n)), some (.inl a4), some (.inl a5), some (.inl a6), some (.inl a7), none, some (.inl (nI (i + 1)))], [], us (keepM g) 52 (upd F (8 * s + (4 + i)) (if n ≤ i then nI 1000 else if v = nI 100 then nI 1000 else v)))) := by
    intro F i v hi hv
    rw [blk_X5_put_135]
    simp only [← nI_0]
    rcases (show i = 0 ∨ i = 1 ∨ i = 2 ∨ i = 3 by omega) with q | q | q | q <;> subst q
    · rw [← hv.1 rfl]
      simp (disch := omega) only [nI_leI, nI_ltI, nI_eq, tn_nI, tn_nI', inB_eq, decide_eq_true_eq, Bool.and_eq_true, decide_true, Bool.and_true, Bool.true_and, Bool.and_self, nI_add, pk_mul, fiv_eq, if_pos, if_neg, ↓reduceIte, b2i_0, and_self, and_true, true_and]
      rw [us_us, us_us, us_s]
      by_cases c : n ≤ 0
      · simp only [c, if_true]
      · by_cases c2 : v = nI 100 <;> simp only [c, c2, if_true, if_false]
    · rw [← hv.2.1 rfl]
      simp (disch := omega) only [nI_leI, nI_ltI, nI_eq, tn_nI, tn_nI', inB_eq, decide_eq_true_eq, Bool.and_eq_true, decide_true, Bool.and_true, Bool.true_and, Bool.and_self, nI_add, pk_mul, fiv_eq, if_pos, if_neg, ↓reduceIte, b2i_0, and_self, and_true, true_and]
      rw [us_us, us_us, us_s]
      by_cases c : n ≤ 1
      · simp only [c, if_true]
      · by_cases c2 : v = nI 100 <;> simp only [c, c2, if_true, if_false]
    · rw [← hv.2.2.1 rfl]
      simp (disch := omega) only [nI_leI, nI_ltI, nI_eq, tn_nI, tn_nI', inB_eq, decide_eq_true_eq, Bool.and_eq_true, decide_true, Bool.and_true, Bool.true_and, Bool.and_self, nI_add, pk_mul, fiv_eq, if_pos, if_neg, ↓reduceIte, b2i_0, and_self, and_true, true_and]
      rw [us_us, us_us, us_s]
      by_cases c : n ≤ 2
      · simp only [c, if_true]
      · by_cases c2 : v = nI 100 <;> simp only [c, c2, if_true, if_false]
    · rw [← hv.2.2.2 rfl]
      simp (disch := omega) only [nI_leI, nI_ltI, nI_eq, tn_nI, tn_nI', inB_eq, decide_eq_true_eq, Bool.and_eq_true, decide_true, Bool.and_true, Bool.true_and, Bool.and_self, nI_add, pk_mul, fiv_eq, if_pos, if_neg, ↓reduceIte, b2i_0, and_self, and_true, true_and]
      rw [us_us, us_us, us_s]
      by_cases c : n ≤ 3
      · simp only [c, if_true]
      · by_cases c2 : v = nI 100 <;> simp only [c, c2, if_true, if_false]
  rw [← wr1_c (v := a4) hn (show 0 < 4 by decide) rfl 0 rfl, ← wr1_c (v := a5) hn (show 1 < 4 by decide) rfl 1 rfl, ← wr1_c (v := a6) hn (show 2 < 4 by decide) rfl 2 rfl, ← wr1_c (v := a7) hn (show 3 < 4 by decide) rfl 3 rfl]
  refine Rn_go (step _ 0 a4 (by decide) ⟨fun _ => rfl, fun z => absurd z (by decide), fun z => absurd z (by decide), fun z => absurd z (by decide)⟩) ?_
  refine Rn_go (step _ 1 a5 (by decide) ⟨fun z => absurd z (by decide), fun _ => rfl, fun z => absurd z (by decide), fun z => absurd z (by decide)⟩) ?_
  refine Rn_go (step _ 2 a6 (by decide) ⟨fun z => absurd z (by decide), fun z => absurd z (by decide), fun _ => rfl, fun z => absurd z (by decide)⟩) ?_
  refine Rn_go (step _ 3 a7 (by decide) ⟨fun z => absurd z (by decide), fun z => absurd z (by decide), fun z => absurd z (by decide), fun _ => rfl⟩) ?_
  refine Rn_ret ?_
  rw [blk_X5_put_135, if_pos (nI_le (by omega) (by decide))]
  rfl
theorem run_X5_swap (E : Ex) (g : Sg) (a1 a2 : Int32) (h : (gK g && gM g) = true) : Rn (T_X5_swap E ev_X5_swap) K_X5_swap 0 [some (.inr (some 51)), some (.inl a1), some (.inl a2)] [] g (some (.inl (b2i (swM g a1 a2))), (if swM g a1 a2 = true then swpM g a1 a2 else g)) := by
  rw [Bool.and_eq_true] at h
  obtain ⟨C, hC5, e⟩ := (inB_iff (by decide)).mp h.2
  have hb0 := blk_X5_swap_0 E g a1 a2
  change _ = (if b2i (colM g a1) = 0 then _ else if b2i (colM g a2) = 0 then _ else _) at hb0
  unfold swM
  cases hc : colM g a1 with
  | false =>
    refine Rn_ret ?_
    rw [hb0, hc]; rfl
  | true =>
  cases hd : colM g a2 with
  | false =>
    refine Rn_ret ?_
    rw [hb0, hc, hd]; rfl
  | true =>
  refine Rn_go (pc' := 20) (by rw [hb0, hc, hd]; rfl) ?_
  rw [colM_in hC5 e] at hc hd
  obtain ⟨c, hc', rfl⟩ := (inB_iff (by omega)).mp hc
  obtain ⟨d, hd', rfl⟩ := (inB_iff (by omega)).mp hd
  simp only [Bool.true_and]
  have step : ∀ s, s < 16 → seg (T_X5_swap E ev_X5_swap) K_X5_swap 2000 20 [some (.inr (some 51)), some (.inl (nI c)), some (.inl (nI d)), some (.inl (nI s))] [] g = if swOK g (nI c) (nI d) s = true then some (.inr (20, [some (.inr (some 51)), some (.inl (nI c)), some (.inl (nI d)), some (.inl (nI (s + 1)))], [], g)) else some (.inl (some (.inl (nI 0)), g)) := by
    intro s hs
    rw [blk_X5_swap_20]
    unfold swOK
    simp (disch := omega) only [nI_leI, nI_ltI, nI_eq, tn_nI, tn_nI', inB_eq, decide_eq_true_eq, Bool.and_eq_true, decide_true, Bool.and_true, Bool.true_and, Bool.and_self, nI_add, pk_mul, fiv_eq, if_pos, if_neg, ↓reduceIte, b2i_0, and_self, and_true, true_and]
    cases hr : rwM g s with
    | false => simp [hs]
    | true =>
      by_cases k1 : g 52 (8 * s + 2) ≤ nI c
      · simp [hs, k1]
      · by_cases k2 : nI d < g 52 (8 * s + 2)
        · simp [hs, k1, k2, Int32.not_le.mpr k2]
        · simp [hs, k1, k2, Int32.not_lt.mp k2]
  refine Rn_loopE (fun s => swOK g (nI c) (nI d) s) (fun s => [some (.inr (some 51)), some (.inl (nI c)), some (.inl (nI d)), some (.inl (nI s))]) (fun _ => g) 16 (fun s hs hp => ?_) (fun s hs hp _ => Rn_ret ?_) (fun hp => ?_)
  · rw [step s hs, if_pos hp]
  · rw [step s hs, if_neg (by rw [hp]; decide), show al (swOK g (nI c) (nI d)) 16 = false from al_f hs hp]; rfl
  · rw [show al (swOK g (nI c) (nI d)) 16 = true from al_iff.mpr hp, if_pos rfl]
    refine Rn_go (by rw [blk_X5_swap_20, if_pos (nI_le (by omega) (by decide)), if_pos h.1]) ?_
    unfold swpM
    rw [tn_nI' (by omega), tn_nI' (by omega)]
    generalize keepM g = g1
    have e0 : us g1 52 (swF (g1 52) c d 0) = g1 := by
      have : swF (g1 52) c d 0 = g1 52 := by funext j; simp [swF]
      rw [this, us_id]
    have key := Rn_loop (T := T_X5_swap E ev_X5_swap) (K := K_X5_swap) (pc := 68) (o := (some (.inl (b2i true)), us g1 52 (swF (g1 52) c d 16))) (fun s => [some (.inr (some 51)), some (.inl (nI c)), some (.inl (nI d)), some (.inl (nI s))]) (fun s => us g1 52 (swF (g1 52) c d s)) 16 (fun s hs => ?_) (Rn_ret ?_)
    · rw [e0] at key
      exact key
    · rw [blk_X5_swap_68]
      have r0 : rwM (us g1 52 (swF (g1 52) c d s)) s = rwM g1 s := by
        unfold rwM
        rw [us_s]
        unfold swF
        rw [if_neg (by omega)]
      simp (disch := omega) only [nI_leI, nI_ltI, nI_eq, tn_nI, tn_nI', inB_eq, decide_eq_true_eq, Bool.and_eq_true, decide_true, Bool.and_true, Bool.true_and, Bool.and_self, nI_add, pk_mul, fiv_eq, if_pos, if_neg, ↓reduceIte, b2i_0, and_self, and_true, true_and, r0]
      have q1 : ∀ k, k < 8 → (8 * s + k) / 8 = s := fun k hk => by omega
      have q2 : ∀ k, k < 8 → (8 * s + k) % 8 = k := fun k hk => by omega
      have q3 : ∀ k, swF (g1 52) c d s (8 * s + k) = g1 52 (8 * s + k) := fun k => by unfold swF; rw [if_neg (by omega)]
      cases hr : rwM g1 s with
      | false =>
        have hr' : ¬ g1 52 (8 * s) = 1 := by unfold rwM at hr; simpa using hr
        have : swF (g1 52) c d s = swF (g1 52) c d (s + 1) := by
          funext i
          unfold swF
          by_cases k1 : i < 8 * s ∧ g1 52 (8 * (i / 8)) = 1
          · rw [if_pos k1, if_pos (show i < 8 * (s + 1) ∧ g1 52 (8 * (i / 8)) = 1 from ⟨by omega, k1.2⟩)]
          · rw [if_neg k1, if_neg (fun z => ?_)]
            rcases Nat.lt_or_ge i (8 * s) with w | w
            · exact k1 ⟨w, z.2⟩
            · have : i / 8 = s := by omega
              rw [this] at z
              exact hr' z.2
        rw [this]
        simp [hs]
      | true =>
        have hr' : g1 52 (8 * s) = 1 := by unfold rwM at hr; simpa using hr
        rw [us_us, us_us, us_s, us_s, q3, q3]
        have : upd (upd (swF (g1 52) c d s) (8 * s + (4 + c)) (g1 52 (8 * s + (4 + d)))) (8 * s + (4 + d)) (g1 52 (8 * s + (4 + c))) = swF (g1 52) c d (s + 1) := by
          funext i
          simp only [upd]
          by_cases k1 : i = 8 * s + (4 + d)
          · subst k1
            rw [if_pos rfl]
            unfold swF
            rw [q1 _ (by omega), q2 _ (by omega), if_pos ⟨by omega, hr'⟩]
            by_cases k2 : 4 + d = 4 + c
            · rw [if_pos k2, k2]
            · rw [if_neg k2, if_pos rfl]
          · rw [if_neg k1]
            by_cases k2 : i = 8 * s + (4 + c)
            · subst k2
              rw [if_pos rfl]
              unfold swF
              rw [q1 _ (by omega), q2 _ (by omega), if_pos ⟨by omega, hr'⟩, if_pos rfl]
            · rw [if_neg k2]
              unfold swF
              by_cases k3 : i < 8 * s ∧ g1 52 (8 * (i / 8)) = 1
              · rw [if_pos k3, if_pos (show i < 8 * (s + 1) ∧ g1 52 (8 * (i / 8)) = 1 from ⟨by omega, k3.2⟩)]
              · rw [if_neg k3]
                by_cases k4 : i < 8 * (s + 1) ∧ g1 52 (8 * (i / 8)) = 1
                · rw [if_pos k4]
                  have w : 8 * s ≤ i := by
                    rcases Nat.lt_or_ge i (8 * s) with w | w
                    · exact absurd ⟨w, k4.2⟩ k3
                    · exact w
                  rw [if_neg (by omega), if_neg (by omega)]
                · rw [if_neg k4]
        rw [this]
        simp [hs]
    · rw [blk_X5_swap_68, if_pos (nI_le (by omega) (by decide))]
      rfl
