/-! THE CALLS THAT CHANGE THE STATE -/
theorem isI_nat {a : Int32} {lo hi : Nat} (hh : hi < 2 ^ 31 - 1) (h : isI a (nI lo) (nI hi) = true) : ∃ n, lo ≤ n ∧ n ≤ hi ∧ a = nI n ∨ lo ≥ 2 ^ 31 := by
  unfold isI at h
  rw [Bool.and_eq_true, decide_eq_true_eq, decide_eq_true_eq] at h
  by_cases hl : lo < 2 ^ 31
  · rcases pk_ix a (show hi + 1 < 2 ^ 31 by omega) with q | q | ⟨j, j1, j2⟩
    · exfalso
      have := Int32.lt_of_le_of_lt h.1 q
      exact nI_pos hl this
    · exfalso
      have := Int32.le_trans q h.2
      rw [nI_leI (by omega) (by omega)] at this
      omega
    · refine ⟨j, Or.inl ⟨?_, by omega, j2⟩⟩
      have := h.1
      rw [j2, nI_leI hl (by omega)] at this
      exact this
  · exact ⟨0, Or.inr (by omega)⟩
theorem gK_chg {g g1 : Sg} (h : Inw g) (hg : ∀ a, a = 0 ∨ 7 ≤ a → g1 a = remC g a) : gK g1 = true := by
  have := inv_gK h.hi
  unfold gK at this ⊢
  rw [chg_out h hg (by omega)]
  exact this
theorem km52 {g g1 : Sg} (h : Inw g) (hg : ∀ a, a = 0 ∨ 7 ≤ a → g1 a = remC g a) : keepM g1 52 = g 52 := by
  rw [keepM_n (by omega), chg_out h hg (by omega)]
theorem op_table {g : Sg} (h : Inw g) (a1 : Int32) : ((gH g) = true) ∧ ((gK (if isI a1 1 4 = true then tabC g a1 else g)) = true) ∧ ((b2i (isI a1 1 4)) = (b2i (isI a1 1 4))) ∧ (Inw (if isI a1 1 4 = true then tabM (if isI a1 1 4 = true then tabC g a1 else g) a1 else (if isI a1 1 4 = true then tabC g a1 else g))) := by
  cases hb : isI a1 1 4 with
  | false =>
    simp only [Bool.false_eq_true, if_false]
    exact ⟨inv_gH h.hi, inv_gK h.hi, trivial, h⟩
  | true =>
    simp only [if_true]
    have hg : ∀ a, a = 0 ∨ 7 ≤ a → tabC g a1 a = remC g a := fun a ha => by
      unfold tabC
      rw [us_n _ (by omega), us_n _ (by omega), us_n _ (by omega)]
    refine ⟨inv_gH h.hi, gK_chg h hg, trivial, ?_⟩
    obtain ⟨C, hC⟩ := isI_nat (a := a1) (lo := 1) (hi := 4) (by decide) hb
    have hC : 1 ≤ C ∧ C ≤ 4 ∧ a1 = nI C := by
      rcases hC with q | q
      · exact q
      · exact absurd q (by decide)
    obtain ⟨c1, c2, rfl⟩ := hC
    unfold tabM
    refine chg h hg _ ?_
    have m0 : ∀ i, i < 133 → ¬ i = 128 → upd (filF (keepM (tabC g (nI C)) 52) 133 0) 128 (nI C) i = 0 := by
      intro i hi hn
      rw [pk_un hn]
      unfold filF
      rw [if_pos hi]
    have t1 : tabC g (nI C) 1 0 = nI C := by
      show upd (remC g 1) 0 (nI C) 0 = _
      rw [pk_us]
    have no : ∀ s, s < 16 → ¬ upd (filF (keepM (tabC g (nI C)) 52) 133 0) 128 (nI C) (8 * s) = 1 := by
      intro s hs
      rw [m0 _ (by omega) (by omega)]
      decide
    refine ⟨⟨C, c1, c2, t1⟩, by rw [pk_us, t1], fun s hs => by rw [m0 _ (by omega) (by omega)]; rfl, fun s hs => ⟨fun _ => no s hs, fun _ => ?_⟩, fun s hs q => absurd q (no s hs), fun s hs q => absurd q (no s hs), fun s hs q => absurd q (no s hs), fun s hs q => absurd q (no s hs), fun i hi => ?_⟩
    · show filF (remC g 2) 16 (-1) s = -1
      unfold filF
      rw [if_pos hs]
    · rw [m0 (129 + i) (by omega) (by omega), pk_us, tn_nI' (by omega)]
      refine ⟨?_, ?_⟩
      · show filF (remC g 6) 4 0 i = 0
        unfold filF
        rw [if_pos hi]
      · have hp : 0 < 5 ^ C := Nat.pow_pos (by decide)
        have := p5_le (show C < 5 by omega)
        exact inB_nI (j := 0) hp (by omega)
theorem op_put {g : Sg} (h : Inw g) (a1 a2 a3 a4 a5 a6 a7 : Int32) : ((gH g) = true) ∧ ((gK (if putB a1 a2 a3 a4 a5 a6 a7 = true then putC g a1 a2 a3 a4 a5 a6 a7 else g)) = true) ∧ ((b2i (putB a1 a2 a3 a4 a5 a6 a7)) = (b2i (putB a1 a2 a3 a4 a5 a6 a7))) ∧ (Inw (if putB a1 a2 a3 a4 a5 a6 a7 = true then putM (if putB a1 a2 a3 a4 a5 a6 a7 = true then putC g a1 a2 a3 a4 a5 a6 a7 else g) a1 a2 a3 a4 a5 a6 a7 else (if putB a1 a2 a3 a4 a5 a6 a7 = true then putC g a1 a2 a3 a4 a5 a6 a7 else g))) := by
  cases hb : putB a1 a2 a3 a4 a5 a6 a7 with
  | false =>
    simp only [Bool.false_eq_true, if_false]
    exact ⟨inv_gH h.hi, inv_gK h.hi, trivial, h⟩
  | true =>
    simp only [if_true]
    have hg : ∀ a, a = 0 ∨ 7 ≤ a → putC g a1 a2 a3 a4 a5 a6 a7 a = remC g a := fun a ha => by
      unfold putC
      rw [us_n _ (by omega), us_n _ (by omega), us_n _ (by omega), us_n _ (by omega)]
    refine ⟨inv_gH h.hi, gK_chg h hg, trivial, ?_⟩
    have hb' := hb
    unfold putB at hb'
    simp only [Bool.and_eq_true] at hb'
    obtain ⟨j, hj, rfl⟩ := (inB_iff (by decide)).mp hb'.1.1.1.1.1.1
    have hk := hb'.1.1.1.1.1.2
    have hkn : ¬ a2 = -1 := fun z => by rw [z] at hk; revert hk; decide
    have sr := h.sr
    unfold putM
    refine chg h hg _ ?_
    rw [km52 h hg, tn_nI' (by omega)]
    have o1 : putC g (nI j) a2 a3 a4 a5 a6 a7 1 = g 1 := rem_low h (a := 1) (by decide) (by decide)
    have o2 : putC g (nI j) a2 a3 a4 a5 a6 a7 2 = upd (g 2) j a2 := by
      show upd (remC g 2) (tn (nI j)) a2 = _
      rw [rem_low h (by decide) (by decide), tn_nI' (by omega)]
    have o3 : putC g (nI j) a2 a3 a4 a5 a6 a7 3 = upd (g 3) j a3 := by
      show upd (remC g 3) (tn (nI j)) a3 = _
      rw [rem_low h (by decide) (by decide), tn_nI' (by omega)]
    have o4 : putC g (nI j) a2 a3 a4 a5 a6 a7 4 = upd (g 4) j 1 := by
      show upd (remC g 4) (tn (nI j)) 1 = _
      rw [rem_low h (by decide) (by decide), tn_nI' (by omega)]
    have o5 : putC g (nI j) a2 a3 a4 a5 a6 a7 5 = wr4 (g 5) j a3 a4 a5 a6 a7 := by
      show wr4 (remC g 5) (tn (nI j)) a3 a4 a5 a6 a7 = _
      rw [rem_low h (by decide) (by decide), tn_nI' (by omega)]
    have o6 : putC g (nI j) a2 a3 a4 a5 a6 a7 6 = g 6 := rem_low h (a := 6) (by decide) (by decide)
    rw [Nat.add_zero]
    generalize hm : upd (upd (upd (upd (upd (upd (upd (upd (g 52) (8 * j) 1) (8 * j + 1) a2) (8 * j + 2) a3) (8 * j + 3) 1) (8 * j + (4 + 0)) (wr1 (if a3 ≤ 0 then 100 else a4))) (8 * j + (4 + 1)) (wr1 (if a3 ≤ 1 then 100 else a5))) (8 * j + (4 + 2)) (wr1 (if a3 ≤ 2 then 100 else a6))) (8 * j + (4 + 3)) (wr1 (if a3 ≤ 3 then 100 else a7)) = m'
    have mo : ∀ i, (i < 8 * j ∨ 8 * j + 8 ≤ i) → m' i = g 52 i := fun i hi => by rw [← hm, pk_un (by omega), pk_un (by omega), pk_un (by omega), pk_un (by omega), pk_un (by omega), pk_un (by omega), pk_un (by omega), pk_un (by omega)]
    have m0 : m' (8 * j) = 1 := by rw [← hm, pk_un (by omega), pk_un (by omega), pk_un (by omega), pk_un (by omega), pk_un (by omega), pk_un (by omega), pk_un (by omega), pk_us]
    have m1 : m' (8 * j + 1) = a2 := by rw [← hm, pk_un (by omega), pk_un (by omega), pk_un (by omega), pk_un (by omega), pk_un (by omega), pk_un (by omega), pk_us]
    have m2 : m' (8 * j + 2) = a3 := by rw [← hm, pk_un (by omega), pk_un (by omega), pk_un (by omega), pk_un (by omega), pk_un (by omega), pk_us]
    have m3 : m' (8 * j + 3) = 1 := by rw [← hm, pk_un (by omega), pk_un (by omega), pk_un (by omega), pk_un (by omega), pk_us]
    have m4 : m' (8 * j + (4 + 0)) = wr1 (if a3 ≤ 0 then 100 else a4) := by rw [← hm, pk_un (by omega), pk_un (by omega), pk_un (by omega), pk_us]
    have m5 : m' (8 * j + (4 + 1)) = wr1 (if a3 ≤ 1 then 100 else a5) := by rw [← hm, pk_un (by omega), pk_un (by omega), pk_us]
    have m6 : m' (8 * j + (4 + 2)) = wr1 (if a3 ≤ 2 then 100 else a6) := by rw [← hm, pk_un (by omega), pk_us]
    have m7 : m' (8 * j + (4 + 3)) = wr1 (if a3 ≤ 3 then 100 else a7) := by rw [← hm, pk_us]
    refine ⟨?_, ?_, fun s hs => ?_, fun s hs => ?_, fun s hs => ?_, fun s hs => ?_, fun s hs => ?_, fun s hs => ?_, fun i hi => ?_⟩
    · rw [o1]; exact sr.col
    · rw [o1, mo 128 (by omega)]; exact sr.cm
    · by_cases q : s = j
      · rw [q, m0]; rfl
      · rw [mo _ (by omega)]; exact sr.bz s hs
    · rw [o2]
      by_cases q : s = j
      · rw [q, m0, pk_us]
        exact ⟨fun z => absurd z hkn, fun z => absurd rfl z⟩
      · rw [mo _ (by omega), pk_un q]; exact sr.rw s hs
    · rw [o2]
      by_cases q : s = j
      · rw [q, m1, pk_us]; exact fun _ => rfl
      · rw [mo _ (by omega), mo _ (by omega), pk_un q]; exact sr.kd s hs
    · rw [o3]
      by_cases q : s = j
      · rw [q, m2, pk_us]; exact fun _ => rfl
      · rw [mo _ (by omega), mo _ (by omega), pk_un q]; exact sr.sz s hs
    · rw [o4]
      by_cases q : s = j
      · rw [q, m3, pk_us]; exact fun _ => ⟨rfl, 1, by decide, rfl⟩
      · rw [mo _ (by omega), mo _ (by omega), pk_un q]; exact sr.pr s hs
    · rw [o5]
      by_cases q : s = j
      · subst q
        intro _ c hc
        unfold wr4
        have : c = 0 ∨ c = 1 ∨ c = 2 ∨ c = 3 := by omega
        rcases this with rfl | rfl | rfl | rfl
        · rw [m4, pk_un (by omega), pk_un (by omega), pk_un (by omega), pk_us]
        · rw [m5, pk_un (by omega), pk_un (by omega), pk_us]
        · rw [m6, pk_un (by omega), pk_us]
        · rw [m7, pk_us]
      · rw [mo _ (by omega)]
        intro h1 c hc
        unfold wr4
        rw [mo _ (by omega), pk_un (by omega), pk_un (by omega), pk_un (by omega), pk_un (by omega)]
        exact sr.nb s hs h1 c hc
    · rw [o6, mo _ (by omega), mo 128 (by omega)]; exact sr.tl i hi
theorem op_change {g : Sg} (h : Inw g) (a1 a2 a3 : Int32) : ((gH g && gC g) = true) ∧ ((gK (if chB g a1 a2 a3 = true then chC g a1 a2 a3 else g) && gM (if chB g a1 a2 a3 = true then chC g a1 a2 a3 else g)) = true) ∧ ((b2i (chB g a1 a2 a3)) = (b2i (chM (if chB g a1 a2 a3 = true then chC g a1 a2 a3 else g) a1 a2 a3))) ∧ (Inw (if chM (if chB g a1 a2 a3 = true then chC g a1 a2 a3 else g) a1 a2 a3 = true then chgM (if chB g a1 a2 a3 = true then chC g a1 a2 a3 else g) a1 a2 a3 else (if chB g a1 a2 a3 = true then chC g a1 a2 a3 else g))) := by
  have sr := h.sr
  have heq : chB g a1 a2 a3 = chM g a1 a2 a3 := by
    unfold chB chM
    rw [rowB_eq sr, colB_eq sr]
    cases hr : rowM g a1 with
    | false => rfl
    | true =>
      obtain ⟨s, hs, rfl, rs⟩ := rowM_in hr
      have r1 := rwM_1 rs
      rw [tn_nI' (by omega), sr.sz s hs r1, sr.kd s hs r1]
  have hgg : (gH g && gC g) = true := by rw [inv_gH h.hi, inv_gC sr]; rfl
  cases hb : chB g a1 a2 a3 with
  | false =>
    have hm : chM g a1 a2 a3 = false := by rw [← heq]; exact hb
    simp only [Bool.false_eq_true, if_false, hm]
    exact ⟨hgg, by rw [inv_gK h.hi, inv_gM sr]; rfl, trivial, h⟩
  | true =>
    have hg : ∀ a, a = 0 ∨ 7 ≤ a → chC g a1 a2 a3 a = remC g a := fun a ha => us_n _ (by omega)
    have hm : chM (chC g a1 a2 a3) a1 a2 a3 = true := by
      have : chM (chC g a1 a2 a3) a1 a2 a3 = chM g a1 a2 a3 := by
        unfold chM rowM rwM colM
        rw [chg_out h hg (by omega)]
      rw [this, ← heq, hb]
    have hgm : gM (chC g a1 a2 a3) = true := by
      unfold gM
      rw [chg_out h hg (by omega)]
      exact inv_gM sr
    simp only [if_true, hm]
    refine ⟨hgg, by rw [gK_chg h hg, hgm]; rfl, trivial, ?_⟩
    have hb' : chM g a1 a2 a3 = true := by rw [← heq]; exact hb
    unfold chM at hb'
    simp only [Bool.and_eq_true] at hb'
    obtain ⟨j, hj, rfl, rj⟩ := rowM_in hb'.1.1.1
    obtain ⟨d, hd, rfl⟩ := colM_in4 sr hb'.1.1.2
    unfold chgM
    refine chg h hg _ ?_
    rw [km52 h hg, tn_nI' (by omega), tn_nI' (by omega)]
    have ol : ∀ a, ¬ a = 0 → a < 7 → ¬ a = 5 → chC g (nI j) (nI d) a3 a = g a := fun a h0 h7 h5 => by
      show us (remC g) 5 _ a = _
      rw [us_n _ h5, rem_low h h0 h7]
    have o5 : chC g (nI j) (nI d) a3 5 = upd (g 5) (j * 4 + d) (wr1 a3) := by
      show upd (remC g 5) (nI j * nI 4 + nI d).toNatClampNeg (wr1 a3) = _
      rw [rem_low h (by decide) (by decide)]
      simp (disch := omega) only [nI_leI, nI_ltI, nI_eq, tn_nI, tn_nI', inB_eq, decide_eq_true_eq, Bool.and_eq_true, decide_true, Bool.and_true, Bool.true_and, Bool.and_self, nI_add, pk_mul, fiv_eq, if_pos, if_neg, ↓reduceIte, b2i_0, and_self, and_true, true_and]
    have mo : ∀ i, ¬ i = 8 * j + (4 + d) → upd (g 52) (8 * j + (4 + d)) (wr1 a3) i = g 52 i := fun i hi => pk_un hi
    refine ⟨?_, ?_, fun s hs => ?_, fun s hs => ?_, fun s hs => ?_, fun s hs => ?_, fun s hs => ?_, fun s hs => ?_, fun i hi => ?_⟩
    · rw [ol 1 (by decide) (by decide) (by decide)]; exact sr.col
    · rw [ol 1 (by decide) (by decide) (by decide), mo _ (by omega)]; exact sr.cm
    · rw [mo _ (by omega)]; exact sr.bz s hs
    · rw [mo _ (by omega), ol (1 + 1) (by decide) (by decide) (by decide)]; exact sr.rw s hs
    · rw [mo _ (by omega), mo _ (by omega), ol (1 + 1) (by decide) (by decide) (by decide)]; exact sr.kd s hs
    · rw [mo _ (by omega), mo _ (by omega), ol (1 + 2) (by decide) (by decide) (by decide)]; exact sr.sz s hs
    · rw [mo _ (by omega), mo _ (by omega), ol (1 + 3) (by decide) (by decide) (by decide)]; exact sr.pr s hs
    · rw [mo _ (by omega)]
      intro h1 c hc
      show chC g (nI j) (nI d) a3 5 (s * 4 + c) = _
      rw [o5]
      by_cases q : s = j ∧ c = d
      · rw [q.1, q.2, pk_us, pk_us]
      · rw [mo _ (by omega), pk_un (by omega)]
        exact sr.nb s hs h1 c hc
    · rw [mo _ (by omega), mo _ (by omega), ol (1 + 5) (by decide) (by decide) (by decide)]; exact sr.tl i hi
theorem op_strike {g : Sg} (h : Inw g) (a1 : Int32) : ((gH g) = true) ∧ ((gK (if rowB g a1 = true then strC g a1 else g)) = true) ∧ ((b2i (rowB g a1)) = (b2i (rowM (if rowB g a1 = true then strC g a1 else g) a1))) ∧ (Inw (if rowM (if rowB g a1 = true then strC g a1 else g) a1 = true then strM (if rowB g a1 = true then strC g a1 else g) a1 else (if rowB g a1 = true then strC g a1 else g))) := by
  have sr := h.sr
  cases hb : rowB g a1 with
  | false =>
    have hm : rowM g a1 = false := by rw [← rowB_eq sr]; exact hb
    simp only [Bool.false_eq_true, if_false, hm]
    exact ⟨inv_gH h.hi, inv_gK h.hi, trivial, h⟩
  | true =>
    have hg : ∀ a, a = 0 ∨ 7 ≤ a → strC g a1 a = remC g a := fun a ha => us_n _ (by omega)
    have hm' : rowM g a1 = true := by rw [← rowB_eq sr]; exact hb
    have hm : rowM (strC g a1) a1 = true := by
      unfold rowM rwM
      rw [chg_out h hg (by omega)]
      exact hm'
    simp only [if_true, hm]
    refine ⟨inv_gH h.hi, gK_chg h hg, trivial, ?_⟩
    obtain ⟨j, hj, rfl, rj⟩ := rowM_in hm'
    unfold strM
    refine chg h hg _ ?_
    rw [km52 h hg, tn_nI' (by omega), Nat.add_zero]
    have ol : ∀ a, ¬ a = 0 → a < 7 → ¬ a = 2 → strC g (nI j) a = g a := fun a h0 h7 h5 => by
      show us (remC g) 2 _ a = _
      rw [us_n _ h5, rem_low h h0 h7]
    have o2 : strC g (nI j) (1 + 1) = upd (g 2) j (-1) := by
      show upd (remC g 2) (tn (nI j)) (-1) = _
      rw [rem_low h (by decide) (by decide), tn_nI' (by omega)]
    have mo : ∀ i, ¬ i = 8 * j → upd (g 52) (8 * j) 0 i = g 52 i := fun i hi => pk_un hi
    have no : ∀ s, upd (g 52) (8 * j) 0 (8 * s) = 1 → ¬ s = j ∧ g 52 (8 * s) = 1 := by
      intro s q
      by_cases z : s = j
      · rw [z, pk_us] at q
        exact absurd q (by decide)
      · rw [mo _ (by omega)] at q
        exact ⟨z, q⟩
    refine ⟨?_, ?_, fun s hs => ?_, fun s hs => ?_, fun s hs q => ?_, fun s hs q => ?_, fun s hs q => ?_, fun s hs q => ?_, fun i hi => ?_⟩
    · rw [ol 1 (by decide) (by decide) (by decide)]; exact sr.col
    · rw [ol 1 (by decide) (by decide) (by decide), mo _ (by omega)]; exact sr.cm
    · by_cases z : s = j
      · rw [z, pk_us]; rfl
      · rw [mo _ (by omega)]; exact sr.bz s hs
    · rw [o2]
      by_cases z : s = j
      · rw [z, pk_us, pk_us]
        exact ⟨fun _ => by decide, fun _ => rfl⟩
      · rw [mo _ (by omega), pk_un z]; exact sr.rw s hs
    · rw [o2, pk_un (no s q).1, mo _ (by omega)]; exact sr.kd s hs (no s q).2
    · rw [mo _ (by omega), ol (1 + 2) (by decide) (by decide) (by decide)]; exact sr.sz s hs (no s q).2
    · rw [mo _ (by omega), ol (1 + 3) (by decide) (by decide) (by decide)]; exact sr.pr s hs (no s q).2
    · intro c hc
      rw [mo _ (by omega), ol (1 + 4) (by decide) (by decide) (by decide)]; exact sr.nb s hs (no s q).2 c hc
    · rw [mo _ (by omega), mo _ (by omega), ol (1 + 5) (by decide) (by decide) (by decide)]; exact sr.tl i hi
theorem op_price {g : Sg} (h : Inw g) (a1 a2 : Int32) : ((gH g) = true) ∧ ((gK (if (rowB g a1 && isI a2 0 99) = true then priC g a1 a2 else g)) = true) ∧ ((b2i (rowB g a1 && isI a2 0 99)) = (b2i (rowM (if (rowB g a1 && isI a2 0 99) = true then priC g a1 a2 else g) a1 && isI a2 0 99))) ∧ (Inw (if (rowM (if (rowB g a1 && isI a2 0 99) = true then priC g a1 a2 else g) a1 && isI a2 0 99) = true then priM (if (rowB g a1 && isI a2 0 99) = true then priC g a1 a2 else g) a1 a2 else (if (rowB g a1 && isI a2 0 99) = true then priC g a1 a2 else g))) := by
  have sr := h.sr
  cases hb : (rowB g a1 && isI a2 0 99) with
  | false =>
    have hm : (rowM g a1 && isI a2 0 99) = false := by rw [← rowB_eq sr]; exact hb
    simp only [Bool.false_eq_true, if_false, hm]
    exact ⟨inv_gH h.hi, inv_gK h.hi, trivial, h⟩
  | true =>
    have hg : ∀ a, a = 0 ∨ 7 ≤ a → priC g a1 a2 a = remC g a := fun a ha => us_n _ (by omega)
    have hm' : (rowM g a1 && isI a2 0 99) = true := by rw [← rowB_eq sr]; exact hb
    have hm : (rowM (priC g a1 a2) a1 && isI a2 0 99) = true := by
      unfold rowM rwM
      rw [chg_out h hg (by omega)]
      exact hm'
    simp only [if_true, hm]
    refine ⟨inv_gH h.hi, gK_chg h hg, trivial, ?_⟩
    rw [Bool.and_eq_true] at hm'
    obtain ⟨j, hj, rfl, rj⟩ := rowM_in hm'.1
    obtain ⟨p, hp⟩ := isI_nat (a := a2) (lo := 0) (hi := 99) (by decide) hm'.2
    have hp : p ≤ 99 ∧ a2 = nI p := by
      rcases hp with q | q
      · exact q.2
      · exact absurd q (by decide)
    unfold priM
    refine chg h hg _ ?_
    rw [km52 h hg, tn_nI' (by omega)]
    have ol : ∀ a, ¬ a = 0 → a < 7 → ¬ a = 4 → priC g (nI j) a2 a = g a := fun a h0 h7 h5 => by
      show us (remC g) 4 _ a = _
      rw [us_n _ h5, rem_low h h0 h7]
    have o4 : priC g (nI j) a2 (1 + 3) = upd (g 4) j a2 := by
      show upd (remC g 4) (tn (nI j)) a2 = _
      rw [rem_low h (by decide) (by decide), tn_nI' (by omega)]
    have mo : ∀ i, ¬ i = 8 * j + 3 → upd (g 52) (8 * j + 3) a2 i = g 52 i := fun i hi => pk_un hi
    refine ⟨?_, ?_, fun s hs => ?_, fun s hs => ?_, fun s hs => ?_, fun s hs => ?_, fun s hs => ?_, fun s hs => ?_, fun i hi => ?_⟩
    · rw [ol 1 (by decide) (by decide) (by decide)]; exact sr.col
    · rw [ol 1 (by decide) (by decide) (by decide), mo _ (by omega)]; exact sr.cm
    · rw [mo _ (by omega)]; exact sr.bz s hs
    · rw [mo _ (by omega), ol (1 + 1) (by decide) (by decide) (by decide)]; exact sr.rw s hs
    · rw [mo _ (by omega), mo _ (by omega), ol (1 + 1) (by decide) (by decide) (by decide)]; exact sr.kd s hs
    · rw [mo _ (by omega), mo _ (by omega), ol (1 + 2) (by decide) (by decide) (by decide)]; exact sr.sz s hs
    · rw [o4, mo (8 * s) (by omega)]
      by_cases z : s = j
      · subst z
        rw [pk_us, pk_us]
        exact fun _ => ⟨rfl, p, hp⟩
      · rw [mo _ (by omega), pk_un z]; exact sr.pr s hs
    · rw [mo _ (by omega)]
      intro h1 c hc
      rw [mo _ (by omega), ol (1 + 4) (by decide) (by decide) (by decide)]; exact sr.nb s hs h1 c hc
    · rw [mo _ (by omega), mo _ (by omega), ol (1 + 5) (by decide) (by decide) (by decide)]; exact sr.tl i hi
theorem op_tell {g : Sg} (h : Inw g) (a1 a2 : Int32) : ((gH g && gC g) = true) ∧ ((gK (if tlB (tn (g 1 0)) a1 a2 = true then tlC g a1 a2 else g) && gM (if tlB (tn (g 1 0)) a1 a2 = true then tlC g a1 a2 else g)) = true) ∧ ((b2i (tlB (tn (g 1 0)) a1 a2)) = (b2i (tlB (tn ((if tlB (tn (g 1 0)) a1 a2 = true then tlC g a1 a2 else g) 52 128)) a1 a2))) ∧ (Inw (if tlB (tn ((if tlB (tn (g 1 0)) a1 a2 = true then tlC g a1 a2 else g) 52 128)) a1 a2 = true then tlM (if tlB (tn (g 1 0)) a1 a2 = true then tlC g a1 a2 else g) a1 a2 else (if tlB (tn (g 1 0)) a1 a2 = true then tlC g a1 a2 else g))) := by
  have sr := h.sr
  obtain ⟨C, h1, h2, h3, h4, h5, h6⟩ := inv_C sr
  have h625 := p5_le h2
  have hgg : (gH g && gC g) = true := by rw [inv_gH h.hi, inv_gC sr]; rfl
  rw [h5]
  cases hb : tlB C a1 a2 with
  | false =>
    simp only [Bool.false_eq_true, if_false, h6, hb]
    exact ⟨hgg, by rw [inv_gK h.hi, inv_gM sr]; rfl, trivial, h⟩
  | true =>
    have hg : ∀ a, a = 0 ∨ 7 ≤ a → tlC g a1 a2 a = remC g a := fun a ha => us_n _ (by omega)
    have e52 : tlC g a1 a2 52 = g 52 := chg_out h hg (by omega)
    have hgm : gM (tlC g a1 a2) = true := by
      unfold gM
      rw [e52]
      exact inv_gM sr
    simp only [if_true, e52, h6, hb]
    refine ⟨hgg, by rw [gK_chg h hg, hgm]; rfl, trivial, ?_⟩
    unfold tlB at hb
    rw [Bool.and_eq_true] at hb
    obtain ⟨j, hj, rfl⟩ := (inB_iff (by decide)).mp hb.1
    have hin : inB a2 (5 ^ C) = true := by
      have hp : 0 < 5 ^ C := Nat.pow_pos (by decide)
      have hb2 := hb.2
      rw [Bool.or_eq_true, decide_eq_true_eq] at hb2
      rcases hb2 with q | q
      · rw [q]; exact inB_nI (j := 0) hp (by omega)
      · obtain ⟨n, n1, n2, n3, n4, _⟩ := lawB_in h2 q
        rw [n4]; exact inB_nI n2 (by omega)
    unfold tlM
    refine chg h hg _ ?_
    rw [km52 h hg, tn_nI' (by omega)]
    have ol : ∀ a, ¬ a = 0 → a < 7 → ¬ a = 6 → tlC g (nI j) a2 a = g a := fun a h0 h7 h5 => by
      show us (remC g) 6 _ a = _
      rw [us_n _ h5, rem_low h h0 h7]
    have o6 : tlC g (nI j) a2 (1 + 5) = upd (g 6) j a2 := by
      show upd (remC g 6) (tn (nI j)) a2 = _
      rw [rem_low h (by decide) (by decide), tn_nI' (by omega)]
    have mo : ∀ i, ¬ i = 129 + j → upd (g 52) (129 + j) a2 i = g 52 i := fun i hi => pk_un hi
    refine ⟨?_, ?_, fun s hs => ?_, fun s hs => ?_, fun s hs => ?_, fun s hs => ?_, fun s hs => ?_, fun s hs => ?_, fun i hi => ?_⟩
    · rw [ol 1 (by decide) (by decide) (by decide)]; exact sr.col
    · rw [ol 1 (by decide) (by decide) (by decide), mo _ (by omega)]; exact sr.cm
    · rw [mo _ (by omega)]; exact sr.bz s hs
    · rw [mo _ (by omega), ol (1 + 1) (by decide) (by decide) (by decide)]; exact sr.rw s hs
    · rw [mo _ (by omega), mo _ (by omega), ol (1 + 1) (by decide) (by decide) (by decide)]; exact sr.kd s hs
    · rw [mo _ (by omega), mo _ (by omega), ol (1 + 2) (by decide) (by decide) (by decide)]; exact sr.sz s hs
    · rw [mo _ (by omega), mo _ (by omega), ol (1 + 3) (by decide) (by decide) (by decide)]; exact sr.pr s hs
    · rw [mo _ (by omega)]
      intro h1 c hc
      rw [mo _ (by omega), ol (1 + 4) (by decide) (by decide) (by decide)]; exact sr.nb s hs h1 c hc
    · rw [o6, mo 128 (by omega), h6]
      by_cases z : i = j
      · rw [z, pk_us, pk_us]; exact ⟨rfl, hin⟩
      · rw [mo _ (by omega), pk_un z]
        have := sr.tl i hi
        rw [h6] at this
        exact this
theorem sh_iff {g : Sg} (x : Int32) (hx : x < 4) : ∀ k, (x < shC g k) ↔ ∀ s, s < k → rwC g s = true → x < g 3 s
  | 0 => ⟨fun _ s hs => absurd hs (by omega), fun _ => hx⟩
  | k + 1 => by
    have ih := sh_iff (g := g) x hx k
    simp only [shC]
    by_cases q : rwC g k = true
    · rw [if_pos q]
      have hmin : (x < minI (shC g k) (g 3 k)) ↔ (x < shC g k ∧ x < g 3 k) := by
        unfold minI
        by_cases z : shC g k ≤ g 3 k
        · rw [if_pos z]
          exact ⟨fun y => ⟨y, Int32.lt_of_lt_of_le y z⟩, fun y => y.1⟩
        · rw [if_neg z]
          exact ⟨fun y => ⟨Int32.lt_trans y (Int32.not_le.mp z), y⟩, fun y => y.2⟩
      rw [hmin, ih]
      refine ⟨fun h s hs hr => ?_, fun h => ⟨fun s hs => h s (by omega), h k (by omega) q⟩⟩
      rcases Nat.lt_or_ge s k with z | z
      · exact h.1 s z hr
      · rw [show s = k by omega]; exact h.2
    · rw [if_neg q, ih]
      refine ⟨fun h s hs hr => ?_, fun h s hs => h s (by omega)⟩
      rcases Nat.lt_or_ge s k with z | z
      · exact h s z hr
      · rw [show s = k by omega] at hr; exact absurd hr q
theorem sw_eq {g : Sg} (sr : SRq g 1 (g 52)) (c d : Int32) : swB g c d = swM g c d := by
  unfold swB swM
  rw [colB_eq sr, colB_eq sr]
  cases hc : colM g c with
  | false => rfl
  | true =>
    cases hd : colM g d with
    | false => rfl
    | true =>
      obtain ⟨c', hc4, rfl⟩ := colM_in4 sr hc
      obtain ⟨d', hd4, rfl⟩ := colM_in4 sr hd
      simp only [Bool.true_and]
      refine bool_iff ?_
      have hmax : ∀ y : Int32, (maxI (nI c') (nI d') < y) ↔ (nI c' < y ∧ nI d' < y) := by
        intro y
        unfold maxI
        by_cases z : nI d' ≤ nI c'
        · rw [if_pos z]
          exact ⟨fun q => ⟨q, Int32.lt_of_le_of_lt z q⟩, fun q => q.1⟩
        · rw [if_neg z]
          exact ⟨fun q => ⟨Int32.lt_trans (Int32.not_le.mp z) q, q⟩, fun q => q.2⟩
      have f4 : ∀ n, n < 4 → nI n < (4 : Int32) := by decide
      rw [decide_eq_true_eq, hmax, sh_iff _ (f4 c' hc4), sh_iff _ (f4 d' hd4), al_iff]
      unfold swOK
      refine ⟨fun h s hs => ?_, fun h => ⟨fun s hs hr => ?_, fun s hs hr => ?_⟩⟩
      · cases rs : rwM g s with
        | false => rfl
        | true =>
          have hr : rwC g s = true := by rw [rw_eq sr hs]; exact rs
          have e := sr.sz s hs (rwM_1 rs)
          have e1 := h.1 s hs hr
          have e2 := h.2 s hs hr
          rw [show g 3 s = g 52 (8 * s + 2) from e] at e1 e2
          rw [decide_eq_false (Int32.not_le.mpr e1), decide_eq_false (Int32.not_le.mpr e2)]
          rfl
      · rw [rw_eq sr hs] at hr
        have := h s hs
        rw [hr] at this
        simp only [Bool.true_and, Bool.not_eq_true', Bool.or_eq_false_iff, decide_eq_false_iff_not] at this
        rw [show g 3 s = g 52 (8 * s + 2) from sr.sz s hs (rwM_1 hr)]
        exact Int32.not_le.mp this.1
      · rw [rw_eq sr hs] at hr
        have := h s hs
        rw [hr] at this
        simp only [Bool.true_and, Bool.not_eq_true', Bool.or_eq_false_iff, decide_eq_false_iff_not] at this
        rw [show g 3 s = g 52 (8 * s + 2) from sr.sz s hs (rwM_1 hr)]
        exact Int32.not_le.mp this.2
theorem op_swap {g : Sg} (h : Inw g) (a1 a2 : Int32) : ((gH g && gC g) = true) ∧ ((gK (if swB g a1 a2 = true then swC g a1 a2 else g) && gM (if swB g a1 a2 = true then swC g a1 a2 else g)) = true) ∧ ((b2i (swB g a1 a2)) = (b2i (swM (if swB g a1 a2 = true then swC g a1 a2 else g) a1 a2))) ∧ (Inw (if swM (if swB g a1 a2 = true then swC g a1 a2 else g) a1 a2 = true then swpM (if swB g a1 a2 = true then swC g a1 a2 else g) a1 a2 else (if swB g a1 a2 = true then swC g a1 a2 else g))) := by
  have sr := h.sr
  have heq := sw_eq sr a1 a2
  have hgg : (gH g && gC g) = true := by rw [inv_gH h.hi, inv_gC sr]; rfl
  cases hb : swB g a1 a2 with
  | false =>
    have hm : swM g a1 a2 = false := by rw [← heq]; exact hb
    simp only [Bool.false_eq_true, if_false, hm]
    exact ⟨hgg, by rw [inv_gK h.hi, inv_gM sr]; rfl, trivial, h⟩
  | true =>
    have hg : ∀ a, a = 0 ∨ 7 ≤ a → swC g a1 a2 a = remC g a := fun a ha => us_n _ (by omega)
    have e52 : swC g a1 a2 52 = g 52 := chg_out h hg (by omega)
    have hm : swM (swC g a1 a2) a1 a2 = true := by
      have : swM (swC g a1 a2) a1 a2 = swM g a1 a2 := by
        unfold swM swOK rwM colM
        rw [e52]
      rw [this, ← heq, hb]
    have hgm : gM (swC g a1 a2) = true := by
      unfold gM
      rw [e52]
      exact inv_gM sr
    simp only [if_true, hm]
    refine ⟨hgg, by rw [gK_chg h hg, hgm]; rfl, trivial, ?_⟩
    have hb' : swM g a1 a2 = true := by rw [← heq]; exact hb
    unfold swM at hb'
    simp only [Bool.and_eq_true] at hb'
    obtain ⟨c, hc, rfl⟩ := colM_in4 sr hb'.1.1
    obtain ⟨d, hd, rfl⟩ := colM_in4 sr hb'.1.2
    unfold swpM
    refine chg h hg _ ?_
    rw [km52 h hg, tn_nI' (by omega), tn_nI' (by omega)]
    have ol : ∀ a, ¬ a = 0 → a < 7 → ¬ a = 5 → swC g (nI c) (nI d) a = g a := fun a h0 h7 h5 => by
      show us (remC g) 5 _ a = _
      rw [us_n _ h5, rem_low h h0 h7]
    have o5 : swC g (nI c) (nI d) (1 + 4) = exN (g 5) c d 16 := by
      show exN (remC g 5) (tn (nI c)) (tn (nI d)) 16 = _
      rw [rem_low h (by decide) (by decide), tn_nI' (by omega), tn_nI' (by omega)]
    have mo : ∀ i, (i % 8 < 4 ∨ 128 ≤ i) → swF (g 52) c d 16 i = g 52 i := by
      intro i hi
      unfold swF
      by_cases q : i < 8 * 16 ∧ g 52 (8 * (i / 8)) = 1
      · rw [if_pos q, if_neg (by omega), if_neg (by omega)]
      · rw [if_neg q]
    refine ⟨?_, ?_, fun s hs => ?_, fun s hs => ?_, fun s hs => ?_, fun s hs => ?_, fun s hs => ?_, fun s hs => ?_, fun i hi => ?_⟩
    · rw [ol 1 (by decide) (by decide) (by decide)]; exact sr.col
    · rw [ol 1 (by decide) (by decide) (by decide), mo _ (by omega)]; exact sr.cm
    · rw [mo _ (by omega)]; exact sr.bz s hs
    · rw [mo _ (by omega), ol (1 + 1) (by decide) (by decide) (by decide)]; exact sr.rw s hs
    · rw [mo _ (by omega), mo _ (by omega), ol (1 + 1) (by decide) (by decide) (by decide)]; exact sr.kd s hs
    · rw [mo _ (by omega), mo _ (by omega), ol (1 + 2) (by decide) (by decide) (by decide)]; exact sr.sz s hs
    · rw [mo _ (by omega), mo _ (by omega), ol (1 + 3) (by decide) (by decide) (by decide)]; exact sr.pr s hs
    · rw [mo _ (by omega), o5]
      intro h1 e he
      have q1 : 8 * s + (4 + e) < 8 * 16 := by omega
      have q2 : 8 * ((8 * s + (4 + e)) / 8) = 8 * s := by omega
      unfold exN swF
      rw [q2, if_pos (show s * 4 + e < 4 * 16 by omega), if_pos (show 8 * s + (4 + e) < 8 * 16 ∧ g 52 (8 * s) = 1 from ⟨q1, h1⟩), show (s * 4 + e) % 4 = e by omega, show (s * 4 + e) / 4 * 4 = s * 4 by omega, show (8 * s + (4 + e)) % 8 = 4 + e by omega]
      by_cases y1 : e = c
      · rw [if_pos y1, if_pos (by omega)]
        exact sr.nb s hs h1 d hd
      · by_cases y2 : e = d
        · rw [if_neg y1, if_pos y2, if_neg (by omega), if_pos (by omega)]
          exact sr.nb s hs h1 c hc
        · rw [if_neg y1, if_neg y2, if_neg (by omega), if_neg (by omega)]
          exact sr.nb s hs h1 e he
    · rw [mo _ (by omega), mo _ (by omega), ol (1 + 5) (by decide) (by decide) (by decide)]; exact sr.tl i hi
