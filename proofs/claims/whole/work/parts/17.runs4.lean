/-! RUNS: the tally -/
theorem D_base : ∀ c, c < 4 → ∀ x, x < 625 → D (x - D x c * 5 ^ c) c = 0 ∧ x = (x - D x c * 5 ^ c) + D x c * 5 ^ c := by decide +kernel
theorem D_up : ∀ c, c < 4 → ∀ x, x < 625 → D x c = 0 → ∀ k, k < 5 → D (x + k * 5 ^ c) c = k ∧ x + k * 5 ^ c < 625 := by decide +kernel
theorem D_in : ∀ C, C < 5 → ∀ c, c < C → ∀ x, x < 5 ^ C → D x c = 0 → x + 4 * 5 ^ c < 5 ^ C := by decide +kernel
theorem pw5_of {c N : Nat} (h : pw5 c N = true) : ∃ C, C < 5 ∧ c < C ∧ N = 5 ^ C := by
  unfold pw5 at h
  refine Classical.byContradiction fun q => ?_
  have : al (fun C => !(decide (c < C) && decide (N = 5 ^ C))) 5 = true := al_iff.mpr fun C hC => by
    cases hb : (decide (c < C) && decide (N = 5 ^ C)) with
    | false => rfl
    | true =>
      simp only [Bool.and_eq_true, decide_eq_true_eq] at hb
      exact absurd ⟨C, hC, hb⟩ q
  rw [this] at h
  cases h
theorem pw5_is {c C : Nat} (hC : C < 5) (hc : c < C) : pw5 c (5 ^ C) = true := by
  unfold pw5
  rw [al_f (c := C) hC (by simp [hc])]
  rfl
theorem sumP_step {f : Nat → Int32} {c C L : Nat} (hC : C < 5) (hc : c < C) (hL : L < 5 ^ C) (h0 : D L c = 0) :
    upd (upd (sumP f c (5 ^ C) L) (L + 2 * 5 ^ c) (sumP f c (5 ^ C) L (L + 2 * 5 ^ c) + sumP f c (5 ^ C) L (L + 3 * 5 ^ c) + sumP f c (5 ^ C) L (L + 4 * 5 ^ c))) L (upd (sumP f c (5 ^ C) L) (L + 2 * 5 ^ c) (sumP f c (5 ^ C) L (L + 2 * 5 ^ c) + sumP f c (5 ^ C) L (L + 3 * 5 ^ c) + sumP f c (5 ^ C) L (L + 4 * 5 ^ c)) (L + 1 * 5 ^ c) + (sumP f c (5 ^ C) L (L + 2 * 5 ^ c) + sumP f c (5 ^ C) L (L + 3 * 5 ^ c) + sumP f c (5 ^ C) L (L + 4 * 5 ^ c))) = sumP f c (5 ^ C) (L + 1) := by
  have hp := pow5_b hC
  have h5 : 0 < 5 ^ c := Nat.pow_pos (by decide)
  have hin := D_in C hC c hc L hL h0
  have hk : ∀ k, k < 5 → D (L + k * 5 ^ c) c = k := fun k hk => (D_up c (by omega) L (by omega) h0 k hk).1
  have hb : ∀ k, k < 5 → sumP f c (5 ^ C) L (L + k * 5 ^ c) = f (L + k * 5 ^ c) := by
    intro k hk'
    unfold sumP
    rw [hk k hk', if_neg (by omega)]
  rw [hb 2 (by decide), hb 3 (by decide), hb 4 (by decide)]
  have h1 : upd (sumP f c (5 ^ C) L) (L + 2 * 5 ^ c) (f (L + 2 * 5 ^ c) + f (L + 3 * 5 ^ c) + f (L + 4 * 5 ^ c)) (L + 1 * 5 ^ c) = f (L + 1 * 5 ^ c) := by
    rw [pk_un (by omega), hb 1 (by decide)]
  rw [h1]
  funext x
  unfold upd
  by_cases x1 : x = L
  · subst x1
    rw [if_pos rfl]
    unfold sumP
    rw [h0, if_pos (by omega)]
    unfold sumG
    rw [h0, if_pos rfl]
  · rw [if_neg x1]
    by_cases x2 : x = L + 2 * 5 ^ c
    · rw [if_pos x2]
      have hd := hk 2 (by decide)
      rw [← x2] at hd
      unfold sumP
      rw [hd, if_pos (by omega)]
      unfold sumG
      rw [hd, if_neg (by decide), if_pos rfl, x2]
      rw [show L + 2 * 5 ^ c + 1 * 5 ^ c = L + 3 * 5 ^ c by omega, show L + 2 * 5 ^ c + 2 * 5 ^ c = L + 4 * 5 ^ c by omega]
    · rw [if_neg x2]
      unfold sumP
      by_cases x3 : x < 5 ^ C
      · obtain ⟨d1, d2⟩ := D_base c (by omega) x (by omega)
        have dl := D_lt x c
        by_cases x4 : x - D x c * 5 ^ c < L
        · rw [if_pos ⟨x3, x4⟩, if_pos ⟨x3, by omega⟩]
        · rw [if_neg (by omega)]
          by_cases x5 : x - D x c * 5 ^ c = L
          · rw [if_pos ⟨x3, by omega⟩]
            unfold sumG
            rw [x5] at d2
            have n0 : ¬ D x c = 0 := fun q => by rw [q] at d2; omega
            have n2 : ¬ D x c = 2 := fun q => by rw [q] at d2; omega
            rw [if_neg n0, if_neg n2]
          · rw [if_neg (by omega)]
      · rw [if_neg (by omega), if_neg (by omega)]
theorem sumP_skip {f : Nat → Int32} {c C L : Nat} (hC : C < 5) (hc : c < C) (hL : L < 5 ^ C) (h0 : ¬ D L c = 0) : sumP f c (5 ^ C) L = sumP f c (5 ^ C) (L + 1) := by
  have hp := pow5_b hC
  funext x
  unfold sumP
  by_cases x3 : x < 5 ^ C
  · obtain ⟨d1, d2⟩ := D_base c (by omega) x (by omega)
    have x5 : ¬ x - D x c * 5 ^ c = L := fun q => h0 (by rw [← q]; exact d1)
    by_cases x4 : x - D x c * 5 ^ c < L
    · rw [if_pos ⟨x3, x4⟩, if_pos ⟨x3, by omega⟩]
    · rw [if_neg (by omega), if_neg (by omega)]
  · rw [if_neg (by omega), if_neg (by omega)]
theorem run_X3_sumUp (E : Ex) (g : Sg) (a1 a2 : Int32) (h : (inB a1 4 && inB a2 626 && pw5 (tn a1) (tn a2)) = true) : Rn (T_X3_sumUp E ev_X3_sumUp) K_X3_sumUp 0 [some (.inr (some 45)), some (.inl a1), some (.inl a2)] [] g (none, us g 47 (sumP (g 47) (tn a1) (tn a2) (tn a2))) := by
  rw [Bool.and_eq_true, Bool.and_eq_true] at h
  obtain ⟨c, hc4, rfl⟩ := (inB_iff (by decide)).mp h.1.1
  obtain ⟨N, hN, rfl⟩ := (inB_iff (by decide)).mp h.1.2
  rw [tn_nI' (by omega), tn_nI' (by omega)] at h ⊢
  obtain ⟨C, hC, hc, rfl⟩ := pw5_of h.2
  refine Rn_go (by rw [blk_X3_sumUp_0, inB_nI (show c < 5 by omega) (by decide), if_pos rfl, tn_nI (by omega), fiv_eq c (by omega)]) ?_
  have e0 : us g 47 (sumP (g 47) c (5 ^ C) 0) = g := by
    have : sumP (g 47) c (5 ^ C) 0 = g 47 := by funext x; simp [sumP]
    rw [this, us_id]
  have key := Rn_loop (T := T_X3_sumUp E ev_X3_sumUp) (K := K_X3_sumUp) (pc := 9) (o := (none, us g 47 (sumP (g 47) c (5 ^ C) (5 ^ C)))) (fun L => [some (.inr (some 45)), some (.inl (nI c)), some (.inl (nI (5 ^ C))), some (.inl (nI (5 ^ c))), some (.inl (nI L))]) (fun L => us g 47 (sumP (g 47) c (5 ^ C) L)) (5 ^ C) (fun L hL => ?_) (Rn_ret ?_)
  · rw [e0] at key
    exact key
  · have hp := pow5_b hC
    have hd := D_lt L c
    rw [blk_X3_sumUp_9]
    simp only [← nI_0]
    by_cases h0 : D L c = 0
    · have hk := fun k hk => (D_up c (by omega) L (by omega) h0 k hk).2
      have k1 := hk 1 (by decide)
      have k2 := hk 2 (by decide)
      have k3 := hk 3 (by decide)
      have k4 := hk 4 (by decide)
      simp (disch := omega) only [nI_leI, nI_ltI, nI_eq, tn_nI, tn_nI', inB_eq, decide_eq_true_eq, Bool.and_eq_true, decide_true, Bool.and_true, Bool.true_and, Bool.and_self, nI_add, pk_mul, fiv_eq, if_pos, if_neg, ↓reduceIte, b2i_0, and_self, and_true, true_and, h0]
      rw [us_us, us_us, us_s, sumP_step hC hc hL h0]
    · simp (disch := omega) only [nI_leI, nI_ltI, nI_eq, tn_nI, tn_nI', inB_eq, decide_eq_true_eq, Bool.and_eq_true, decide_true, Bool.and_true, Bool.true_and, Bool.and_self, nI_add, pk_mul, fiv_eq, if_pos, if_neg, ↓reduceIte, b2i_0, and_self, and_true, true_and]
      rw [sumP_skip hC hc hL h0]
  · rw [blk_X3_sumUp_9, if_pos (nI_le (by omega) (by omega))]
theorem run_X3_halveEven (E : Ex) (g : Sg) (a1 : Int32) (h : (inB a1 626) = true) : Rn (T_X3_halveEven E ev_X3_halveEven) K_X3_halveEven 0 [some (.inr (some 45)), some (.inl a1)] [] g (none, us g 47 (halP (g 47) (tn a1))) := by
  obtain ⟨N, hN, rfl⟩ := (inB_iff (by decide)).mp h
  rw [tn_nI' (by omega)]
  refine Rn_go (blk_X3_halveEven_0 E g _) ?_
  have e0 : us g 47 (halP (g 47) 0) = g := by
    have : halP (g 47) 0 = g 47 := by funext x; simp [halP]
    rw [this, us_id]
  have key := Rn_loop (T := T_X3_halveEven E ev_X3_halveEven) (K := K_X3_halveEven) (pc := 2) (o := (none, us g 47 (halP (g 47) N))) (fun L => [some (.inr (some 45)), some (.inl (nI N)), some (.inl (nI L))]) (fun L => us g 47 (halP (g 47) L)) N (fun L hL => ?_) (Rn_ret ?_)
  · rw [e0] at key
    exact key
  · have ht := tun_lt L (by omega)
    rw [blk_X3_halveEven_2]
    simp (disch := omega) only [nI_leI, nI_ltI, nI_eq, tn_nI, tn_nI', inB_eq, decide_eq_true_eq, Bool.and_eq_true, decide_true, Bool.and_true, Bool.true_and, Bool.and_self, nI_add, pk_mul, fiv_eq, if_pos, if_neg, ↓reduceIte, b2i_0, and_self, and_true, true_and]
    rw [us_us, us_s]
    have e1 : halP (g 47) L L = g 47 L := by unfold halP; rw [if_neg (by omega)]
    by_cases h0 : tun L = L
    · rw [if_pos h0, e1]
      congr 7
      funext x
      unfold upd halP
      by_cases x1 : x = L
      · subst x1
        rw [if_pos rfl, if_pos ⟨by omega, h0⟩]; rfl
      · rw [if_neg x1]
        by_cases x2 : x < L ∧ tun x = x
        · rw [if_pos x2, if_pos ⟨by omega, x2.2⟩]
        · rw [if_neg x2, if_neg (by omega)]
    · rw [if_neg h0]
      have e2 : halP (g 47) L = halP (g 47) (L + 1) := by
        funext x
        unfold halP
        by_cases x2 : x < L ∧ tun x = x
        · rw [if_pos x2, if_pos ⟨by omega, x2.2⟩]
        · rw [if_neg x2, if_neg (fun q => x2 ⟨by
            rcases Nat.lt_or_ge x L with z | z
            · exact z
            · have : x = L := by omega
              rw [this] at q
              exact absurd q.2 h0, q.2⟩)]
      rw [e2]
  · rw [blk_X3_halveEven_2, if_pos (nI_le (by omega) (by omega))]
theorem run_X3_unlikeSeen (E : Ex) (g : Sg) (h : true = true) : Rn (T_X3_unlikeSeen E ev_X3_unlikeSeen) K_X3_unlikeSeen 0 [some (.inr (some 45))] [] g (some (.inl (nI (sm (fun b => ct1 (!decide (g 46 b = 0))) 625))), g) := by
  refine Rn_go (blk_X3_unlikeSeen_0 E g) ?_
  refine Rn_loop (fun b => [some (.inr (some 45)), some (.inl (nI (sm (fun b => ct1 (!decide (g 46 b = 0))) b))), some (.inl (nI b))]) (fun _ => g) 625 (fun b hb => ?_) (Rn_ret ?_)
  · rw [blk_X3_unlikeSeen_4]
    simp (disch := omega) only [nI_leI, nI_ltI, nI_eq, tn_nI, tn_nI', inB_eq, decide_eq_true_eq, Bool.and_eq_true, decide_true, Bool.and_true, Bool.true_and, Bool.and_self, nI_add, pk_mul, fiv_eq, if_pos, if_neg, ↓reduceIte, b2i_0, and_self, and_true, true_and]
    by_cases h0 : g 46 b = 0 <;> simp [sm, h0, ct1]
  · rw [blk_X3_unlikeSeen_4, if_pos (nI_le (by omega) (by decide))]
theorem D_mul_le (n c : Nat) : D n c * 5 ^ c ≤ n := Nat.le_trans (Nat.mul_le_mul_right _ (Nat.mod_le _ _)) (Nat.div_mul_le_self _ _)
theorem run_X3_hasWiderNear (E : Ex) (g : Sg) (a1 a2 : Int32) (h : (inB a1 625) = true) : Rn (T_X3_hasWiderNear E ev_X3_hasWiderNear) K_X3_hasWiderNear 0 [some (.inr (some 45)), some (.inl a1), some (.inl a2)] [] g (some (.inl (b2i (hwn (g 47) (tn a1) a2))), g) := by
  obtain ⟨n, hn, rfl⟩ := (inB_iff (by decide)).mp h
  refine Rn_go (blk_X3_hasWiderNear_0 E g _ _) ?_
  rw [tn_nI' (by omega)]
  have step : ∀ c, c < 4 → seg (T_X3_hasWiderNear E ev_X3_hasWiderNear) K_X3_hasWiderNear 2000 2 [some (.inr (some 45)), some (.inl (nI n)), some (.inl a2), some (.inl (nI c))] [] g = if (!(!decide (wid n c = n) && !decide (wid n c = 0) && decide (g 47 (wid n c) ≤ a2))) = true then some (.inr (2, [some (.inr (some 45)), some (.inl (nI n)), some (.inl a2), some (.inl (nI (c + 1)))], [], g)) else some (.inl (some (.inl (nI 1)), g)) := by
    intro c hc
    have hd := D_lt n c
    have hm := D_mul_le n c
    have h5 : 5 ^ c ≤ 125 := by
      rcases (show c = 0 ∨ c = 1 ∨ c = 2 ∨ c = 3 by omega) with e | e | e | e <;> subst e <;> decide
    rw [blk_X3_hasWiderNear_2]
    simp only [← nI_0]
    by_cases h2 : D n c ≤ 2
    · have hw : wid n c = n - D n c * 5 ^ c := by unfold wid; rw [if_neg (by omega)]
      simp (disch := omega) only [nI_leI, nI_ltI, nI_eq, tn_nI, tn_nI', inB_eq, decide_eq_true_eq, Bool.and_eq_true, decide_true, Bool.and_true, Bool.true_and, Bool.and_self, nI_add, pk_mul, fiv_eq, if_pos, if_neg, ↓reduceIte, b2i_0, and_self, and_true, true_and, pk_sub hm]
      rw [← hw]
      by_cases k1 : wid n c = n
      · simp [k1]
      by_cases k2 : wid n c = 0
      · simp [k2]
      by_cases k3 : a2 < g 47 (wid n c)
      · simp [k1, k2, k3, Int32.not_le.mpr k3]
      · simp [k1, k2, k3, Int32.not_lt.mp k3]
    · have hw : wid n c = n - (D n c - 2) * 5 ^ c := by unfold wid; rw [if_pos (by omega)]
      have hm2 : (D n c - 2) * 5 ^ c ≤ n := Nat.le_trans (Nat.mul_le_mul_right _ (Nat.sub_le _ _)) hm
      simp (disch := omega) only [nI_leI, nI_ltI, nI_eq, tn_nI, tn_nI', inB_eq, decide_eq_true_eq, Bool.and_eq_true, decide_true, Bool.and_true, Bool.true_and, Bool.and_self, nI_add, pk_mul, fiv_eq, if_pos, if_neg, ↓reduceIte, b2i_0, and_self, and_true, true_and, pk_sub (show 2 ≤ D n c by omega), pk_sub hm2]
      rw [← hw]
      by_cases k1 : wid n c = n
      · simp [k1]
      by_cases k2 : wid n c = 0
      · simp [k2]
      by_cases k3 : a2 < g 47 (wid n c)
      · simp [k1, k2, k3, Int32.not_le.mpr k3]
      · simp [k1, k2, k3, Int32.not_lt.mp k3]
  refine Rn_loopE (fun c => !(!decide (wid n c = n) && !decide (wid n c = 0) && decide (g 47 (wid n c) ≤ a2))) (fun c => [some (.inr (some 45)), some (.inl (nI n)), some (.inl a2), some (.inl (nI c))]) (fun _ => g) 4 (fun c hc hp => ?_) (fun c hc hp _ => Rn_ret ?_) (fun hp => Rn_ret ?_)
  · rw [step c hc, if_pos hp]
  · rw [step c hc, if_neg (by rw [hp]; decide)]
    unfold hwn
    rw [al_f hc hp]; rfl
  · rw [blk_X3_hasWiderNear_2, if_pos (nI_le (by omega) (by decide))]
    unfold hwn
    rw [al_iff.mpr hp]; rfl
theorem run_X3_isFound (E : Ex) (g : Sg) (a1 a2 a3 : Int32) (h : (inB a1 625) = true) : Rn (T_X3_isFound E ev_X3_isFound) K_X3_isFound 0 [some (.inr (some 45)), some (.inl a1), some (.inl a2), some (.inl a3)] [] g (some (.inl (b2i (fnd (g 47) (tn a1) a2 a3))), g) := by
  obtain ⟨n, hn, rfl⟩ := (inB_iff (by decide)).mp h
  have ht := tun_lt n hn
  refine Rn_ret ?_
  rw [blk_X3_isFound_0]
  unfold fnd
  simp (disch := omega) only [nI_leI, nI_ltI, nI_eq, tn_nI, tn_nI', inB_eq, decide_eq_true_eq, Bool.and_eq_true, decide_true, Bool.and_true, Bool.true_and, Bool.and_self, nI_add, pk_mul, fiv_eq, if_pos, if_neg, ↓reduceIte, b2i_0, and_self, and_true, true_and]
  by_cases k1 : a2 < g 47 n
  · simp [k1, Int32.not_le.mpr k1]; rfl
  by_cases k2 : a3 < nI (cols n)
  · simp [k1, k2, Int32.not_le.mpr k2]; rfl
  by_cases k3 : tun n < n
  · have k3' : ¬ n ≤ tun n := by omega
    simp [k1, k2, k3, k3']; rfl
  · have k3' : n ≤ tun n := by omega
    cases hwn (g 47) n a2 <;> simp [k1, k2, k3, k3', Int32.not_lt.mp k1, Int32.not_lt.mp k2] <;> rfl
theorem alk_lt : ∀ n, n < 16 → alk n < 625 := by decide +kernel
theorem bit_le : ∀ n, n < 16 → ∀ c, c < 4 → n / 2 ^ c % 2 = 1 → 2 ^ c ≤ n := by decide +kernel
theorem shl1 : ∀ c, c < 31 → (nI 1) <<< (nI c &&& nI 31) = nI (2 ^ c) := by decide +kernel
theorem run_X3_isLeastKey (E : Ex) (g : Sg) (a1 : Int32) (h : (inB a1 16) = true) : Rn (T_X3_isLeastKey E ev_X3_isLeastKey) K_X3_isLeastKey 0 [some (.inr (some 45)), some (.inl a1)] [] g (some (.inl (b2i (lky (g 47) (tn a1)))), g) := by
  obtain ⟨n, hn, rfl⟩ := (inB_iff (by decide)).mp h
  have ha := alk_lt n hn
  rw [tn_nI' (by omega)]
  unfold lky
  by_cases k1 : g 47 (alk n) = 0
  · refine Rn_go (pc' := 16) (by rw [blk_X3_isLeastKey_0]; simp (disch := omega) only [nI_leI, nI_ltI, nI_eq, tn_nI, tn_nI', inB_eq, decide_eq_true_eq, Bool.and_eq_true, decide_true, Bool.and_true, Bool.true_and, Bool.and_self, nI_add, pk_mul, fiv_eq, if_pos, if_neg, ↓reduceIte, b2i_0, and_self, and_true, true_and, k1]; rfl) ?_
    have step : ∀ c, c < 4 → seg (T_X3_isLeastKey E ev_X3_isLeastKey) K_X3_isLeastKey 2000 16 [some (.inr (some 45)), some (.inl (nI n)), some (.inl (nI c))] [] g = if (!(decide (n / 2 ^ c % 2 = 1) && decide (g 47 (alk (n - 2 ^ c)) = 0))) = true then some (.inr (16, [some (.inr (some 45)), some (.inl (nI n)), some (.inl (nI (c + 1)))], [], g)) else some (.inl (some (.inl (nI 0)), g)) := by
      intro c hc
      rw [blk_X3_isLeastKey_16, shr_bit (by omega) (by omega), shl1 c (by omega)]
      by_cases k2 : n / 2 ^ c % 2 = 1
      · have hb := bit_le n hn c hc k2
        have hm16 : n - 2 ^ c < 16 := Nat.lt_of_le_of_lt (Nat.sub_le _ _) hn
        rw [k2, pk_sub hb]
        generalize n - 2 ^ c = m at hm16 ⊢
        have ha2 := alk_lt m hm16
        simp (disch := omega) only [nI_leI, nI_ltI, nI_eq, tn_nI, tn_nI', inB_eq, decide_eq_true_eq, Bool.and_eq_true, decide_true, Bool.and_true, Bool.true_and, Bool.and_self, nI_add, pk_mul, fiv_eq, if_pos, if_neg, ↓reduceIte, b2i_0, and_self, and_true, true_and]
        by_cases k3 : g 47 (alk m) = 0 <;> simp [k3]
      · simp (disch := omega) only [nI_leI, nI_ltI, nI_eq, tn_nI, tn_nI', inB_eq, decide_eq_true_eq, Bool.and_eq_true, decide_true, Bool.and_true, Bool.true_and, Bool.and_self, nI_add, pk_mul, fiv_eq, if_pos, if_neg, ↓reduceIte, b2i_0, and_self, and_true, true_and]
        simp [k2]
    refine Rn_loopE (fun c => !(decide (n / 2 ^ c % 2 = 1) && decide (g 47 (alk (n - 2 ^ c)) = 0))) (fun c => [some (.inr (some 45)), some (.inl (nI n)), some (.inl (nI c))]) (fun _ => g) 4 (fun c hc hp => ?_) (fun c hc hp _ => Rn_ret ?_) (fun hp => Rn_ret ?_)
    · rw [step c hc, if_pos hp]
    · rw [step c hc, if_neg (by rw [hp]; decide), al_f hc hp]
      simp [k1]; rfl
    · rw [blk_X3_isLeastKey_16, if_pos (nI_le (by omega) (by decide)), al_iff.mpr hp]
      simp [k1]; rfl
  · refine Rn_ret ?_
    rw [blk_X3_isLeastKey_0]
    simp (disch := omega) only [nI_leI, nI_ltI, nI_eq, tn_nI, tn_nI', inB_eq, decide_eq_true_eq, Bool.and_eq_true, decide_true, Bool.and_true, Bool.true_and, Bool.and_self, nI_add, pk_mul, fiv_eq, if_pos, if_neg, ↓reduceIte, b2i_0, and_self, and_true, true_and]
    simp [k1]; rfl
