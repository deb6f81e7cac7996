/-! THE LIGHTEST COVER -/
theorem tb_iff (n i : Nat) : Nat.testBit n i = decide (n / 2 ^ i % 2 = 1) := Nat.testBit_eq_decide_div_mod_eq
theorem bit_tb (n i : Nat) : bit n i = Nat.testBit n i := by rw [tb_iff]; rfl
theorem tb_65535 (i : Nat) : Nat.testBit 65535 i = decide (i < 16) := Nat.testBit_two_pow_sub_one 16 i
theorem tb_big {n i : Nat} (hn : n < 65536) (hi : 16 ≤ i) : Nat.testBit n i = false := Nat.testBit_lt_two_pow (Nat.lt_of_lt_of_le hn (show 2 ^ 16 ≤ 2 ^ i from Nat.pow_le_pow_right (by decide) hi))
theorem subs_iff {n q : Nat} (hn : n < 65536) : n &&& (65535 ^^^ q) = 0 ↔ ∀ i, i < 16 → Nat.testBit n i = true → Nat.testBit q i = true := by
  refine ⟨fun h i hi hb => ?_, fun h => ?_⟩
  · have : Nat.testBit (n &&& (65535 ^^^ q)) i = false := by rw [h]; exact Nat.zero_testBit i
    rw [Nat.testBit_and, Nat.testBit_xor, tb_65535, hb, decide_eq_true hi] at this
    cases hq : Nat.testBit q i with
    | true => rfl
    | false => rw [hq] at this; cases this
  · apply Nat.eq_of_testBit_eq
    intro i
    rw [Nat.zero_testBit, Nat.testBit_and, Nat.testBit_xor, tb_65535]
    by_cases hi : i < 16
    · cases hb : Nat.testBit n i with
      | false => rfl
      | true => rw [h i hi hb, decide_eq_true hi]; rfl
    · rw [tb_big hn (by omega)]; rfl
theorem popc_tb (n : Nat) : popc n = sm (fun j => ct1 (Nat.testBit n j)) 16 := by
  refine sm_congr fun j _ => ?_
  rw [tb_iff]
  by_cases h : n / 2 ^ j % 2 = 1
  · simp [h, ct1]
  · have : n / 2 ^ j % 2 = 0 := by omega
    simp [this, ct1]
theorem popc_0 {n : Nat} (h : popc n = 0) {i : Nat} (hi : i < 16) : Nat.testBit n i = false := by
  rw [popc_tb] at h
  exact ct1_0.mp (sm_zero.mp h i hi)
theorem popc_ne {n : Nat} (h : 0 < popc n) : ∃ i, i < 16 ∧ Nat.testBit n i = true := by
  refine Classical.byContradiction fun q => ?_
  have : popc n = 0 := by
    rw [popc_tb, sm_zero]
    intro i hi
    refine ct1_0.mpr (bfalse_of fun z => q ⟨i, hi, z⟩)
  omega
theorem sm_point {f : Nat → Nat} {i : Nat} : ∀ {n : Nat}, i < n → sm f n = sm (fun j => if j = i then 0 else f j) n + f i
  | 0, h => absurd h (by omega)
  | n + 1, h => by
    simp only [sm]
    by_cases q : i = n
    · subst q
      have e : sm (fun j => if j = i then 0 else f j) i = sm f i := sm_congr fun j hj => by rw [if_neg (by omega)]
      rw [e, if_pos rfl]
      omega
    · have := sm_point (f := f) (n := n) (i := i) (by omega)
      rw [this, if_neg (fun z => q z.symm)]
      omega
theorem popc_2 {n i j : Nat} (hi : i < 16) (hj : j < 16) (hij : ¬ i = j) (bi : Nat.testBit n i = true) (bj : Nat.testBit n j = true) : 2 ≤ popc n := by
  rw [popc_tb, sm_point hi, sm_point (i := j) hj, if_neg (fun q => hij q.symm), bi, bj, ct1_t]
  omega
theorem popc_drop {n m v : Nat} (hv : v < 16) (bv : Nat.testBit n v = true) (h : ∀ i, i < 16 → Nat.testBit m i = (Nat.testBit n i && !decide (i = v))) : popc n = popc m + 1 := by
  rw [popc_tb, popc_tb, sm_point hv, bv, ct1_t]
  congr 1
  refine sm_congr fun i hi => ?_
  rw [h i hi]
  by_cases q : i = v
  · simp [q, ct1]
  · simp [q]
theorem popc_sub {n m : Nat} (h : ∀ i, i < 16 → Nat.testBit m i = true → Nat.testBit n i = true) : popc m ≤ popc n := by
  rw [popc_tb, popc_tb]
  refine sm_mono fun i hi => ?_
  cases hm : Nat.testBit m i with
  | false => simp [ct1]
  | true => rw [h i hi hm]; exact Nat.le_refl _
def wS (w : Nat → Nat) (P : Nat → Bool) : Nat := sm (fun s => if P s = true then w s else 0) 16
theorem wS_congr {w : Nat → Nat} {P Q : Nat → Bool} (h : ∀ s, s < 16 → P s = Q s) : wS w P = wS w Q := sm_congr fun s hs => by rw [h s hs]
theorem wS_split (w : Nat → Nat) (P Q : Nat → Bool) (h : ∀ s, s < 16 → Q s = true → P s = true) : wS w P = wS w Q + wS w (fun s => P s && !Q s) := by
  unfold wS
  rw [sm_add]
  refine sm_congr fun s hs => ?_
  have := h s hs
  cases hp : P s <;> cases hq : Q s <;> simp_all
theorem wS_one (w : Nat → Nat) {v : Nat} (hv : v < 16) : wS w (fun s => decide (s = v)) = w v := by
  unfold wS
  rw [sm_point hv]
  have : sm (fun j => if j = v then 0 else if decide (j = v) = true then w j else 0) 16 = 0 := sm_zero.mpr fun i _ => by
    by_cases q : i = v <;> simp [q]
  rw [this]
  simp
theorem wS_le (w : Nat → Nat) (P : Nat → Bool) : wS w P ≤ sm w 16 := sm_mono fun s _ => by split <;> omega
theorem wsI_eq {wI : Nat → Int32} {w : Nat → Nat} {n : Nat} : ∀ k, (∀ s, s < k → Nat.testBit n s = true → wI s = nI (w s)) → wsI wI n k = nI (sm (fun s => if Nat.testBit n s = true then w s else 0) k)
  | 0, _ => rfl
  | k + 1, h => by
    have ih := wsI_eq (n := n) k (fun s hs => h s (by omega))
    simp only [wsI, sm]
    rw [ih, tb_iff]
    by_cases q : n / 2 ^ k % 2 = 1
    · have := h k (by omega) (by rw [tb_iff]; simp [q])
      simp [q, this, nI_add]
    · simp [q]
theorem bsP_spec (f : Nat → Int32) (left : Nat) : ∀ k, (∀ s, s < k → mny f left s ≤ (bsP f left k).2) ∧ (((bsP f left k).1 = -1 ∧ (bsP f left k).2 = 0) ∨ ∃ v, v < k ∧ (bsP f left k).1 = nI v ∧ (bsP f left k).2 = mny f left v ∧ 0 < mny f left v)
  | 0 => ⟨fun s hs => absurd hs (by omega), Or.inl ⟨rfl, rfl⟩⟩
  | k + 1 => by
    have ih := bsP_spec f left k
    have e : bsP f left (k + 1) = if (bsP f left k).2 < mny f left k then (nI k, mny f left k) else bsP f left k := rfl
    rw [e]
    by_cases h : (bsP f left k).2 < mny f left k
    · rw [if_pos h]
      refine ⟨fun s hs => ?_, Or.inr ⟨k, by omega, rfl, rfl, by omega⟩⟩
      rcases Nat.lt_or_ge s k with q | q
      · have := ih.1 s q
        show mny f left s ≤ mny f left k
        omega
      · rw [show s = k by omega]
        exact Nat.le_refl _
    · rw [if_neg h]
      refine ⟨fun s hs => ?_, ?_⟩
      · rcases Nat.lt_or_ge s k with q | q
        · exact ih.1 s q
        · rw [show s = k by omega]
          omega
      · rcases ih.2 with q | ⟨v, h1, h2⟩
        · exact Or.inl q
        · exact Or.inr ⟨v, by omega, h2⟩
def CovP (f : Nat → Nat) (left : Nat) (P : Nat → Bool) : Prop := ∀ s t, s < 16 → t < 16 → Nat.testBit left s = true → Nat.testBit left t = true → Nat.testBit (f s) t = true → P s = true ∨ P t = true
theorem min_nI {a b : Nat} (ha : a < 2 ^ 31) (hb : b < 2 ^ 31) : minI (nI a) (nI b) = nI (min a b) := by
  unfold minI
  by_cases h : a ≤ b
  · rw [if_pos ((nI_leI ha hb).mpr h), Nat.min_eq_left h]
  · rw [if_neg (fun q => h ((nI_leI ha hb).mp q)), Nat.min_eq_right (by omega)]
theorem lc_spec {fI wI : Nat → Int32} {f w : Nat → Nat} (hf : ∀ s, s < 16 → fI s = nI (f s)) (hfl : ∀ s, s < 16 → f s < 65536) (hw : ∀ s, s < 16 → wI s = nI (w s)) (sy : ∀ s t, s < 16 → t < 16 → Nat.testBit (f s) t = Nat.testBit (f t) s) (ir : ∀ s, s < 16 → Nat.testBit (f s) s = false) (tot : sm w 16 < 2 ^ 31) : ∀ k left, left < 65536 → popc left < k → ∃ r, lcI fI wI k left = nI r ∧ (∃ P, CovP f left P ∧ (∀ s, P s = true → s < 16 ∧ Nat.testBit left s = true ∧ ∃ t, t < 16 ∧ Nat.testBit (f s) t = true) ∧ wS w P = r) ∧ ∀ P, CovP f left P → r ≤ wS w P
  | 0, _, _, h => absurd h (by omega)
  | k + 1, left, hl, hk => by
    have ih := lc_spec hf hfl hw sy ir tot k
    obtain ⟨mx, sp⟩ := bsP_spec fI left 16
    rw [lcI_succ]
    have hmny : ∀ s, s < 16 → mny fI left s = if Nat.testBit left s = true then popc (f s &&& left) else 0 := by
      intro s hs
      unfold mny
      rw [hf s hs, tn_nI' (by have := hfl s hs; omega), tb_iff]
      simp
    rcases sp with ⟨e1, e2⟩ | ⟨v, hv, e1, e2, e3⟩
    · rw [if_pos e1]
      refine ⟨0, rfl, ⟨fun _ => false, fun s t hs ht bs bt est => ?_, fun s h => by simp at h, ?_⟩, fun P _ => Nat.zero_le _⟩
      · have := mx s hs
        rw [e2, hmny s hs, if_pos bs] at this
        have z := popc_0 (n := f s &&& left) (by omega) ht
        rw [Nat.testBit_and, est, bt] at z
        cases z
      · unfold wS
        exact sm_zero.mpr fun i _ => by simp
    · have nn : ¬ nI v = -1 := by
        have : ∀ v, v < 16 → ¬ nI v = -1 := by decide +kernel
        exact this v hv
      have tv : tn (nI v) = v := tn_nI' (by omega)
      have tf : tn (nI (f v)) = f v := tn_nI' (by have := hfl v hv; omega)
      rw [e1, if_neg nn, tv, hf v hv, tf, hw v hv]
      rw [hmny v hv] at e3
      have bv : Nat.testBit left v = true := by
        cases hb : Nat.testBit left v with
        | true => rfl
        | false => rw [hb] at e3; simp at e3
      rw [if_pos bv] at e3
      generalize hag : f v &&& left = ag at *
      have agl : ag < 65536 := by
        rw [← hag]
        have := and_leR (f v) left
        omega
      have agb : ∀ i, Nat.testBit ag i = (Nat.testBit (f v) i && Nat.testBit left i) := fun i => by rw [← hag, Nat.testBit_and]
      generalize hl1 : left &&& (65535 ^^^ 2 ^ v) = l1 at *
      generalize hl2 : l1 &&& (65535 ^^^ ag) = l2 at *
      have l1l : l1 < 65536 := by
        rw [← hl1]
        have := and_leL left (65535 ^^^ 2 ^ v)
        omega
      have l2l : l2 < 65536 := by
        rw [← hl2]
        have := and_leL l1 (65535 ^^^ ag)
        omega
      have b1 : ∀ i, i < 16 → Nat.testBit l1 i = (Nat.testBit left i && !decide (i = v)) := by
        intro i hi
        rw [← hl1, Nat.testBit_and, Nat.testBit_xor, tb_65535, Nat.testBit_two_pow, decide_eq_true hi]
        by_cases q : i = v
        · simp [q]
        · simp [q, show ¬ v = i from fun z => q z.symm]
      have b2 : ∀ i, i < 16 → Nat.testBit l2 i = (Nat.testBit left i && !decide (i = v) && !Nat.testBit ag i) := by
        intro i hi
        rw [← hl2, Nat.testBit_and, Nat.testBit_xor, tb_65535, decide_eq_true hi, b1 i hi]
        simp
      have p1 := popc_drop hv bv b1
      have p2 : popc l2 ≤ popc l1 := popc_sub fun i hi h => by
        rw [b2 i hi] at h
        rw [b1 i hi]
        rw [Bool.and_eq_true] at h
        exact h.1
      obtain ⟨r1, lc1, ⟨P1, cv1, in1, ws1⟩, lo1⟩ := ih l1 l1l (by omega)
      obtain ⟨r2, lc2, ⟨P2, cv2, in2, ws2⟩, lo2⟩ := ih l2 l2l (by omega)
      have wag : wsI wI ag 16 = nI (wS w (fun s => Nat.testBit ag s)) := wsI_eq 16 (fun s hs _ => hw s hs)
      have vag : Nat.testBit ag v = false := by rw [agb, ir v hv]; rfl
      obtain ⟨u, hu, bu⟩ := popc_ne e3
      have evu : Nat.testBit (f v) u = true := by
        rw [agb, Bool.and_eq_true] at bu
        exact bu.1
      have blu : Nat.testBit left u = true := by
        rw [agb, Bool.and_eq_true] at bu
        exact bu.2
      -- the two covers
      have cA : CovP f left (fun s => Nat.testBit ag s || P2 s) := by
        intro s t hs ht bs bt est
        simp only [Bool.or_eq_true]
        cases as : Nat.testBit ag s with
        | true => exact Or.inl (Or.inl rfl)
        | false =>
          cases at_ : Nat.testBit ag t with
          | true => exact Or.inr (Or.inl rfl)
          | false =>
            by_cases qs : s = v
            · subst qs
              rw [agb, est, bt] at at_
              cases at_
            · by_cases qt : t = v
              · subst qt
                rw [agb, sy t s ht hs, est, bs] at as
                cases as
              · rcases cv2 s t hs ht (by rw [b2 s hs, bs, as]; simp [qs]) (by rw [b2 t ht, bt, at_]; simp [qt]) est with z | z
                · exact Or.inl (Or.inr z)
                · exact Or.inr (Or.inr z)
      have wA : wS w (fun s => Nat.testBit ag s || P2 s) = wS w (fun s => Nat.testBit ag s) + r2 := by
        rw [wS_split w (fun s => Nat.testBit ag s || P2 s) (fun s => Nat.testBit ag s) (fun s _ h => by simp [h]), ← ws2]
        congr 1
        refine wS_congr fun s hs => ?_
        cases hp : P2 s with
        | false => cases Nat.testBit ag s <;> rfl
        | true =>
          have := (in2 s hp).2.1
          rw [b2 s hs] at this
          cases ha : Nat.testBit ag s with
          | false => rfl
          | true => rw [ha] at this; simp at this
      have iA : ∀ s, (Nat.testBit ag s || P2 s) = true → s < 16 ∧ Nat.testBit left s = true ∧ ∃ t, t < 16 ∧ Nat.testBit (f s) t = true := by
        intro s h
        rw [Bool.or_eq_true] at h
        rcases h with h | h
        · have hs : s < 16 := by
            rcases Nat.lt_or_ge s 16 with q | q
            · exact q
            · rw [tb_big agl q] at h; cases h
          rw [agb, Bool.and_eq_true] at h
          exact ⟨hs, h.2, v, hv, by rw [sy s v hs hv]; exact h.1⟩
        · obtain ⟨a, b, c⟩ := in2 s h
          rw [b2 s a] at b
          simp only [Bool.and_eq_true] at b
          exact ⟨a, b.1.1, c⟩
      -- lower bounds
      have loV : ∀ P, CovP f left P → P v = true → w v + r2 ≤ wS w P ∧ w v + r1 ≤ wS w P := by
        intro P cP pv
        have sp := wS_split w P (fun s => decide (s = v)) (fun s _ h => by
          rw [decide_eq_true_eq] at h
          rw [h]; exact pv)
        rw [wS_one w hv] at sp
        have q1 := lo1 (fun s => P s && !decide (s = v)) (fun s t hs ht bs bt est => by
          rw [b1 s hs, Bool.and_eq_true] at bs
          rw [b1 t ht, Bool.and_eq_true] at bt
          rcases cP s t hs ht bs.1 bt.1 est with z | z
          · exact Or.inl (by dsimp only; rw [z, bs.2]; rfl)
          · exact Or.inr (by dsimp only; rw [z, bt.2]; rfl))
        have q2 := lo2 (fun s => P s && !decide (s = v)) (fun s t hs ht bs bt est => by
          rw [b2 s hs, Bool.and_eq_true, Bool.and_eq_true] at bs
          rw [b2 t ht, Bool.and_eq_true, Bool.and_eq_true] at bt
          rcases cP s t hs ht bs.1.1 bt.1.1 est with z | z
          · exact Or.inl (by dsimp only; rw [z, bs.1.2]; rfl)
          · exact Or.inr (by dsimp only; rw [z, bt.1.2]; rfl))
        omega
      have loA : ∀ P, CovP f left P → ¬ P v = true → wS w (fun s => Nat.testBit ag s) + r2 ≤ wS w P := by
        intro P cP pv
        have sub : ∀ s, s < 16 → Nat.testBit ag s = true → P s = true := by
          intro s hs h
          rw [agb, Bool.and_eq_true] at h
          rcases cP v s hv hs bv h.2 h.1 with z | z
          · exact absurd z pv
          · exact z
        have sp := wS_split w P (fun s => Nat.testBit ag s) sub
        have q2 := lo2 (fun s => P s && !Nat.testBit ag s) (fun s t hs ht bs bt est => by
          rw [b2 s hs, Bool.and_eq_true, Bool.and_eq_true] at bs
          rw [b2 t ht, Bool.and_eq_true, Bool.and_eq_true] at bt
          rcases cP s t hs ht bs.1.1 bt.1.1 est with z | z
          · exact Or.inl (by dsimp only; rw [z, bs.2]; rfl)
          · exact Or.inr (by dsimp only; rw [z, bt.2]; rfl))
        omega
      have tA := wS_le w (fun s => Nat.testBit ag s || P2 s)
      rw [wA] at tA
      by_cases one : popc ag = 1
      · rw [if_pos one, wag, lc2]
        have wvt : w v ≤ sm w 16 := by
          rw [← wS_one w hv]
          exact wS_le _ _
        rw [min_nI (by omega) (by omega), nI_add]
        refine ⟨_, rfl, ?_, fun P cP => ?_⟩
        · by_cases q : wS w (fun s => Nat.testBit ag s) ≤ w v
          · exact ⟨_, cA, iA, by rw [wA]; omega⟩
          · refine ⟨fun s => decide (s = v) || P2 s, ?_, ?_, ?_⟩
            · intro s t hs ht bs bt est
              simp only [Bool.or_eq_true, decide_eq_true_eq]
              by_cases qs : s = v
              · exact Or.inl (Or.inl qs)
              · by_cases qt : t = v
                · exact Or.inr (Or.inl qt)
                · have only : ∀ a b, a < 16 → b < 16 → Nat.testBit ag a = true → ¬ b = v → Nat.testBit left a = true → Nat.testBit left b = true → Nat.testBit (f a) b = true → False := by
                    intro a b ha hb aa nb la lb eab
                    have m1 := mx a ha
                    rw [e2, hmny a ha, hmny v hv, if_pos la, if_pos bv, hag, one] at m1
                    have eva : Nat.testBit (f a) v = true := by
                      rw [agb, Bool.and_eq_true] at aa
                      rw [sy a v ha hv]
                      exact aa.1
                    have := popc_2 (n := f a &&& left) hb hv nb (by rw [Nat.testBit_and, eab, lb]; rfl) (by rw [Nat.testBit_and, eva, bv]; rfl)
                    omega
                  cases as : Nat.testBit ag s with
                  | true => exact (only s t hs ht as qt bs bt est).elim
                  | false =>
                    cases at_ : Nat.testBit ag t with
                    | true => exact (only t s ht hs at_ qs bt bs (by rw [sy t s ht hs]; exact est)).elim
                    | false =>
                      rcases cv2 s t hs ht (by rw [b2 s hs, bs, as]; simp [qs]) (by rw [b2 t ht, bt, at_]; simp [qt]) est with z | z
                      · exact Or.inl (Or.inr z)
                      · exact Or.inr (Or.inr z)
            · intro s h
              rw [Bool.or_eq_true, decide_eq_true_eq] at h
              rcases h with h | h
              · rw [h]; exact ⟨hv, bv, u, hu, evu⟩
              · obtain ⟨a, b, c⟩ := in2 s h
                rw [b2 s a] at b
                simp only [Bool.and_eq_true] at b
                exact ⟨a, b.1.1, c⟩
            · rw [wS_split w (fun s => decide (s = v) || P2 s) (fun s => decide (s = v)) (fun s _ h => by rw [h]; rfl), wS_one w hv]
              have : wS w (fun s => (decide (s = v) || P2 s) && !decide (s = v)) = r2 := by
                rw [← ws2]
                refine wS_congr fun s hs => ?_
                cases hp : P2 s with
                | false => cases decide (s = v) <;> rfl
                | true =>
                  have := (in2 s hp).2.1
                  rw [b2 s hs] at this
                  cases ha : decide (s = v) with
                  | false => rfl
                  | true => rw [ha] at this; simp at this
              rw [this]
              omega
        · by_cases q : P v = true
          · have := (loV P cP q).1
            omega
          · have := loA P cP q
            omega
      · rw [if_neg one, wag, lc2, lc1]
        have wB : wS w (fun s => decide (s = v) || P1 s) = w v + r1 := by
          rw [wS_split w (fun s => decide (s = v) || P1 s) (fun s => decide (s = v)) (fun s _ h => by rw [h]; rfl), wS_one w hv]
          have : wS w (fun s => (decide (s = v) || P1 s) && !decide (s = v)) = r1 := by
            rw [← ws1]
            refine wS_congr fun s hs => ?_
            cases hp : P1 s with
            | false => cases decide (s = v) <;> rfl
            | true =>
              have := (in1 s hp).2.1
              rw [b1 s hs] at this
              cases ha : decide (s = v) with
              | false => rfl
              | true => rw [ha] at this; simp at this
          rw [this]
        have tB := wS_le w (fun s => decide (s = v) || P1 s)
        rw [wB] at tB
        rw [nI_add, nI_add, min_nI (by omega) (by omega)]
        refine ⟨_, rfl, ?_, fun P cP => ?_⟩
        · by_cases q : wS w (fun s => Nat.testBit ag s) + r2 ≤ w v + r1
          · exact ⟨_, cA, iA, by rw [wA]; omega⟩
          · refine ⟨fun s => decide (s = v) || P1 s, ?_, ?_, ?_⟩
            · intro s t hs ht bs bt est
              simp only [Bool.or_eq_true, decide_eq_true_eq]
              by_cases qs : s = v
              · exact Or.inl (Or.inl qs)
              · by_cases qt : t = v
                · exact Or.inr (Or.inl qt)
                · rcases cv1 s t hs ht (by rw [b1 s hs, bs]; simp [qs]) (by rw [b1 t ht, bt]; simp [qt]) est with z | z
                  · exact Or.inl (Or.inr z)
                  · exact Or.inr (Or.inr z)
            · intro s h
              rw [Bool.or_eq_true, decide_eq_true_eq] at h
              rcases h with h | h
              · rw [h]; exact ⟨hv, bv, u, hu, evu⟩
              · obtain ⟨a, b, c⟩ := in1 s h
                rw [b1 s a] at b
                simp only [Bool.and_eq_true] at b
                exact ⟨a, b.1, c⟩
            · rw [wB]; omega
        · by_cases q : P v = true
          · have := (loV P cP q).2
            omega
          · have := loA P cP q
            omega
