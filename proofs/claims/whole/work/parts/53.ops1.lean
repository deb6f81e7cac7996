/-! THE CALLS THAT CHANGE NOTHING -/
theorem lawB_in {C : Nat} (hC : C < 5) {a : Int32} (h : lawB C a = true) : ∃ n, 1 ≤ n ∧ n < 5 ^ C ∧ n < 625 ∧ a = nI n ∧ tn a = n := by
  have h625 := p5_le hC
  unfold lawB at h
  rw [Bool.and_eq_true, decide_eq_true_eq, decide_eq_true_eq] at h
  rcases pk_ix a (show 5 ^ C < 2 ^ 31 by omega) with q | q | ⟨j, h1, h2⟩
  · exact absurd h.1 (Int32.not_lt.mpr (Int32.le_of_lt q))
  · exact absurd h.2 (Int32.not_lt.mpr q)
  · refine ⟨j, ?_, h1, by omega, h2, by rw [h2, tn_nI' (by omega)]⟩
    rcases Nat.eq_zero_or_pos j with z | z
    · rw [h2, z] at h
      exact absurd h.1 (by decide)
    · exact z
theorem op_at {g : Sg} (h : Inw g) (a1 a2 : Int32) : ((gC g) = true) ∧ ((gM g) = true) ∧ ((atV g a1 a2) = (atM g a1 a2)) ∧ (Inw g) := by
  have sr := h.sr
  refine ⟨inv_gC sr, inv_gM sr, ?_, h⟩
  unfold atV atM
  rw [rowB_eq sr, colB_eq sr]
  cases hr : rowM g a1 with
  | false => rfl
  | true =>
    cases hc : colM g a2 with
    | false => rfl
    | true =>
      obtain ⟨s, hs, rfl, rs⟩ := rowM_in hr
      obtain ⟨c, hc4, rfl⟩ := colM_in4 sr hc
      rw [Bool.and_self, if_pos rfl, if_pos rfl]
      simp (disch := omega) only [nI_leI, nI_ltI, nI_eq, tn_nI, tn_nI', inB_eq, decide_eq_true_eq, Bool.and_eq_true, decide_true, Bool.and_true, Bool.true_and, Bool.and_self, nI_add, pk_mul, fiv_eq, if_pos, if_neg, ↓reduceIte, b2i_0, and_self, and_true, true_and]
      exact sr.nb s hs (rwM_1 rs) c hc4
theorem op_row {g : Sg} (h : Inw g) (a1 a2 : Int32) : ((rowV g a1 a2) = (rwvM g a1 a2)) ∧ (Inw g) := by
  have sr := h.sr
  refine ⟨?_, h⟩
  unfold rowV rwvM
  cases hb : inB a1 16 with
  | false => rfl
  | true =>
    obtain ⟨s, hs, rfl⟩ := (inB_iff (by decide)).mp hb
    rw [if_pos rfl, if_pos rfl, tn_nI' (by omega), rw_eq sr hs, Nat.add_zero]
    have hz := isB_cases (sr.bz s hs)
    by_cases w0 : a2 = 0
    · rw [if_pos w0, if_pos w0]
      unfold rwM
      rcases hz with q | q <;> rw [q] <;> rfl
    · rw [if_neg w0, if_neg w0]
      cases rs : rwM g s with
      | false => rfl
      | true =>
        have r1 := rwM_1 rs
        rw [if_pos rfl]
        by_cases w1 : a2 = 1
        · subst w1
          rw [if_pos rfl, if_pos (by decide), if_pos rfl]
          exact sr.kd s hs r1
        · by_cases w2 : a2 = 2
          · subst w2
            rw [if_neg w1, if_pos rfl, if_pos (by decide), if_neg w1, if_pos rfl]
            exact sr.sz s hs r1
          · by_cases w3 : a2 = 3
            · subst w3
              rw [if_neg w1, if_neg w2, if_pos rfl, if_pos (by decide), if_neg w1, if_neg w2]
              exact (sr.pr s hs r1).1
            · rw [if_neg w1, if_neg w2, if_neg w3]
              have : isI a2 1 3 = false := by
                refine bfalse_of fun z => ?_
                obtain ⟨z1, z2⟩ := isI_c.mp z
                rcases pk_ix a2 (show 4 < 2 ^ 31 by decide) with q | q | ⟨j, j1, j2⟩
                · exact z1 (Int32.lt_trans q (by decide))
                · exact absurd (Int32.le_trans q z2) (by decide)
                · have : j = 0 ∨ j = 1 ∨ j = 2 ∨ j = 3 := by omega
                  rcases this with rfl | rfl | rfl | rfl
                  · exact w0 j2
                  · exact w1 j2
                  · exact w2 j2
                  · exact w3 j2
              rw [this]
              rfl
theorem op_between {g : Sg} (h : Inw g) (a1 a2 : Int32) : ((gC g) = true) ∧ ((gM g) = true) ∧ ((betV g a1 a2) = (betM g a1 a2)) ∧ (Inw g) := by
  have sr := h.sr
  refine ⟨inv_gC sr, inv_gM sr, ?_, h⟩
  obtain ⟨C, h1, h2, h3, h4, h5, h6⟩ := inv_C sr
  unfold betV betM
  rw [rowB_eq sr, rowB_eq sr, h5, h6]
  cases hr : rowM g a1 with
  | false => simp
  | true =>
    cases ht : rowM g a2 with
    | false => simp
    | true =>
      obtain ⟨s, hs, rfl, rs⟩ := rowM_in hr
      obtain ⟨t, ht6, rfl, rt⟩ := rowM_in ht
      rw [tn_nI' (by omega), tn_nI' (by omega), btw_eq sr h2 hs ht6 rs rt]
      simp
theorem cm_rw (g : Sg) : rwM (cntC g) = rwM g := by unfold rwM; rw [cnt_out (by omega)]
theorem cm_nm (g : Sg) : nmM (cntC g) = nmM g := by unfold nmM; rw [cnt_out (by omega)]
theorem cm_52 (g : Sg) : cntC g 52 = g 52 := cnt_out (by omega)
theorem cnt_gM {g : Sg} (h : Inw g) : gM (cntC g) = true := inv_gM (cnt_inv h).sr
theorem cntM_inv {g : Sg} (h : Inw g) : Inw (cntM g) := h.scr ⟨fun a ha => us_n _ (by omega), rfl⟩ rfl rfl rfl rfl
theorem cntM_54 (g : Sg) {b : Nat} (hb : b < 625) : cntM g 54 b = nI (seenN (rwM g) (btw (tn (g 52 128)) (nmM g)) b) := by
  show seenP _ _ _ 16 0 b = _
  unfold seenP
  rw [if_pos hb]
  rfl
theorem seen_le (rw : Nat → Bool) (bt : Nat → Nat → Nat) (b : Nat) : seenN rw bt b ≤ 256 := by
  have : seenN rw bt b ≤ 16 * (16 * 1) := sm_le fun s _ => sm_le fun t _ => ct1_le _
  omega
theorem pr_eq {g : Sg} (sr : SRq g 1 (g 52)) (a : Int32) : prB g a = prM g a := by
  obtain ⟨C, h1, h2, h3, h4, h5, h6⟩ := inv_C sr
  have h625 := p5_le h2
  unfold prB prM
  rw [h3, h4, tn_nI' (by omega)]
  rcases pk_ix a (show 5 ^ C < 2 ^ 31 by omega) with q | q | ⟨b, b1, b2⟩
  · rw [inB_lt (by omega) q]
    have : lawB C a = false := by
      unfold lawB
      have : ¬ (0 : Int32) < a := Int32.not_lt.mpr (Int32.le_of_lt q)
      simp [this]
    rw [this]
    rfl
  · rw [inB_ge (by omega) q]
    have : lawB C a = false := by
      unfold lawB
      have : ¬ a < nI (5 ^ C) := Int32.not_lt.mpr q
      simp [this]
    rw [this]
    rfl
  · have key := pr_eq0 C h2 b (by omega)
    rw [decide_eq_true (show 0 < C by omega), Bool.and_true] at key
    rw [b2, inB_nI b1 (by omega), tn_nI' (by omega)]
    rw [decide_eq_true b1] at key
    rw [← key]
    unfold lawB
    have z : (0 : Int32) = nI 0 := rfl
    have hcl : cols b ≤ 4 * 1 := sm_le fun c _ => ct1_le _
    have e1 : decide ((0 : Int32) < nI b) = decide (0 < b) := by
      rw [z]
      by_cases y : 0 < b
      · rw [decide_eq_true y, decide_eq_true ((nI_ltI (by omega) (by omega)).mpr y)]
      · rw [decide_eq_false y, decide_eq_false (fun x => y ((nI_ltI (by omega) (by omega)).mp x))]
    have e2 : decide (nI b < nI (5 ^ C)) = true := decide_eq_true ((nI_ltI (by omega) (by omega)).mpr b1)
    have e3 : decide (nI (cols b) = nI C) = decide (cols b = C) := by
      by_cases y : cols b = C
      · rw [decide_eq_true y, decide_eq_true (by rw [y])]
      · rw [decide_eq_false y, decide_eq_false (fun x => y ((nI_eq (by omega) (by omega)).mp x))]
    rw [e1, e2, e3]
theorem op_pairs {g : Sg} (h : Inw g) (a1 : Int32) : ((gC g) = true) ∧ ((gM (if prB g a1 = true then cntC g else g)) = true) ∧ ((if prB g a1 = true then cntC g 46 (tn a1) else -1) = (if prM (if prB g a1 = true then cntC g else g) a1 = true then cntM (if prB g a1 = true then cntC g else g) 54 (tn a1) else -1)) ∧ (Inw (if prM (if prB g a1 = true then cntC g else g) a1 = true then cntM (if prB g a1 = true then cntC g else g) else (if prB g a1 = true then cntC g else g))) := by
  have sr := h.sr
  cases hb : prB g a1 with
  | false =>
    have hm : prM g a1 = false := by rw [← pr_eq sr]; exact hb
    simp only [Bool.false_eq_true, if_false, hm]
    exact ⟨inv_gC sr, inv_gM sr, trivial, h⟩
  | true =>
    have hm : prM (cntC g) a1 = true := by
      unfold prM
      rw [cm_52]
      have := pr_eq sr a1
      rw [hb] at this
      exact this.symm
    simp only [if_true, hm]
    refine ⟨inv_gC sr, cnt_gM h, ?_, cntM_inv (cnt_inv h)⟩
    obtain ⟨C, h1, h2, h3, h4, h5, h6⟩ := inv_C sr
    have h625 := p5_le h2
    unfold prB at hb
    rw [Bool.and_eq_true, h5] at hb
    obtain ⟨n, n1, n2, n3, _, n5⟩ := lawB_in h2 hb.1
    rw [n5, cntM_54 _ n3]
    exact (cnt_ta h).1 n n3
theorem op_kinds {g : Sg} (h : Inw g) : ((gC g) = true) ∧ ((gM (cntC g)) = true) ∧ ((nI (sm (fun b => ct1 (!decide (cntC g 46 b = 0))) 625)) = (nI (sm (fun b => ct1 (decide (0 < cntM (cntC g) 54 b))) 625))) ∧ (Inw (cntM (cntC g))) := by
  have sr := h.sr
  refine ⟨inv_gC sr, cnt_gM h, ?_, cntM_inv (cnt_inv h)⟩
  refine congrArg nI (sm_congr fun b hb => ?_)
  have hl := seen_le (rwM (cntC g)) (btw (tn (cntC g 52 128)) (nmM (cntC g))) b
  have e2 : cntM (cntC g) 54 b = cntC g 46 b := by rw [cntM_54 _ hb]; exact ((cnt_ta h).1 b hb).symm
  rw [e2, (cnt_ta h).1 b hb]
  generalize seenN (rwM (cntC g)) (btw (tn (cntC g 52 128)) (nmM (cntC g))) b = n at hl
  have z : (0 : Int32) = nI 0 := rfl
  rw [z]
  by_cases y : n = 0
  · rw [y]; rfl
  · rw [decide_eq_false (fun x => y ((nI_eq (by omega) (by omega)).mp x)), decide_eq_true ((nI_ltI (by omega) (by omega)).mpr (by omega))]
    rfl
theorem cnt_47 {g : Sg} (h : Inw g) {C : Nat} (hC : tn (g 52 128) = C) : ∀ x, x < 5 ^ C → cntC g 47 x = nI (brN C (rwM g) (nmM g) x) := by
  intro x hx
  have := (cnt_ta h).2 x
  rw [cm_52, cm_rw, cm_nm, hC] at this
  exact this hx
theorem op_broken {g : Sg} (h : Inw g) (a1 : Int32) : ((gC g) = true) ∧ ((gM (if lawB (tn (g 1 0)) a1 = true then cntC g else g)) = true) ∧ ((if lawB (tn (g 1 0)) a1 = true then cntC g 47 (tn a1) else -1) = (if lawB (tn ((if lawB (tn (g 1 0)) a1 = true then cntC g else g) 52 128)) a1 = true then nI (brN (tn ((if lawB (tn (g 1 0)) a1 = true then cntC g else g) 52 128)) (rwM (if lawB (tn (g 1 0)) a1 = true then cntC g else g)) (nmM (if lawB (tn (g 1 0)) a1 = true then cntC g else g)) (tn a1)) else -1)) ∧ (Inw (if lawB (tn (g 1 0)) a1 = true then cntC g else g)) := by
  have sr := h.sr
  obtain ⟨C, h1, h2, h3, h4, h5, h6⟩ := inv_C sr
  cases hb : lawB (tn (g 1 0)) a1 with
  | false =>
    have hm : lawB (tn (g 52 128)) a1 = false := by rw [h6, ← h5]; exact hb
    simp only [Bool.false_eq_true, if_false, hm]
    exact ⟨inv_gC sr, inv_gM sr, trivial, h⟩
  | true =>
    have hm : lawB (tn (cntC g 52 128)) a1 = true := by rw [cm_52, h6, ← h5]; exact hb
    simp only [if_true, hm]
    refine ⟨inv_gC sr, cnt_gM h, ?_, cnt_inv h⟩
    rw [h5] at hb
    obtain ⟨n, n1, n2, n3, _, n5⟩ := lawB_in h2 hb
    rw [n5, cm_52, cm_rw, cm_nm, h6]
    exact cnt_47 h h6 n n2
theorem fou_congr {P Q : Nat → Nat → Bool} : ∀ {n s a : Nat}, n + s = 16 → (∀ s t, s < 16 → t < 16 → P s t = Q s t) → fou P n s a = fou Q n s a
  | 0, _, _, _, _ => rfl
  | n + 1, s, a, hn, h => by
    have e : fin (P s) (15 - s) (s + 1) a = fin (Q s) (15 - s) (s + 1) a := fin_congr fun x h1 h2 => h s x (by omega) (by omega)
    simp only [fou]
    rw [e]
    cases fin (Q s) (15 - s) (s + 1) a with
    | inl t => rfl
    | inr a' => exact fou_congr (by omega) h
theorem op_breaker {g : Sg} (h : Inw g) (a1 a2 a3 : Int32) : ((gC g) = true) ∧ ((gM g) = true) ∧ ((if bkB (tn (g 1 0)) a1 a2 a3 = true then pickV a3 (fou (fun s t => pbC g s t (tn a1)) 16 0 (tn a2)) else -1) = (if bkB (tn (g 52 128)) a1 a2 a3 = true then pickV a3 (fou (fun s t => brB (tn (g 52 128)) (rwM g) (nmM g) (tn a1) s t) 16 0 (tn a2)) else -1)) ∧ (Inw g) := by
  have sr := h.sr
  refine ⟨inv_gC sr, inv_gM sr, ?_, h⟩
  obtain ⟨C, h1, h2, h3, h4, h5, h6⟩ := inv_C sr
  rw [h5, h6]
  cases hb : bkB C a1 a2 a3 with
  | false => rfl
  | true =>
    rw [if_pos rfl, if_pos rfl]
    congr 1
    unfold bkB at hb
    rw [Bool.and_eq_true, Bool.and_eq_true] at hb
    obtain ⟨n, n1, n2, n3, _, n5⟩ := lawB_in h2 hb.1.1
    refine fou_congr rfl fun s t hs ht => ?_
    rw [n5, pb_eq sr hs ht (by rw [h6]; exact n2), h6]
theorem op_sort {g : Sg} (h : Inw g) (a1 : Int32) : ((gC g) = true) ∧ ((gM g) = true) ∧ ((if lawB (tn (g 1 0)) a1 = true then srtN (tn a1) else -1) = (if lawB (tn (g 52 128)) a1 = true then srtM (tn a1) else -1)) ∧ (Inw g) := by
  have sr := h.sr
  obtain ⟨C, h1, h2, h3, h4, h5, h6⟩ := inv_C sr
  refine ⟨inv_gC sr, inv_gM sr, ?_, h⟩
  rw [h5, h6, srt_eq]
theorem op_least {g : Sg} (h : Inw g) (a1 : Int32) : ((gC g) = true) ∧ ((gM g) = true) ∧ ((if lawB (tn (g 1 0)) a1 = true then nI (min (tn a1) (tun (tn a1))) else -1) = (if lawB (tn (g 52 128)) a1 = true then nI (min (tn a1) (tun (tn a1))) else -1)) ∧ (Inw g) := by
  have sr := h.sr
  obtain ⟨C, h1, h2, h3, h4, h5, h6⟩ := inv_C sr
  refine ⟨inv_gC sr, inv_gM sr, ?_, h⟩
  rw [h5, h6]
theorem op_said {g : Sg} (h : Inw g) (a1 a2 : Int32) : ((gC g) = true) ∧ ((gM g) = true) ∧ ((if (lawB (tn (g 1 0)) a1 && lawB (tn (g 1 0)) a2) = true then b2i (cov (tn a2) (tn a1) || cov (tun (tn a2)) (tn a1)) else -1) = (if (lawB (tn (g 52 128)) a1 && lawB (tn (g 52 128)) a2) = true then b2i (isd (tn a1) (tn a2)) else -1)) ∧ (Inw g) := by
  have sr := h.sr
  obtain ⟨C, h1, h2, h3, h4, h5, h6⟩ := inv_C sr
  refine ⟨inv_gC sr, inv_gM sr, ?_, h⟩
  rw [h5, h6, cov_sa, cov_sa]
  rfl
theorem op_told {g : Sg} (h : Inw g) (a1 : Int32) : ((if inB a1 4 = true then g 6 (tn a1) else -1) = (if inB a1 4 = true then g 52 (129 + tn a1) else -1)) ∧ (Inw g) := by
  have sr := h.sr
  refine ⟨?_, h⟩
  cases hb : inB a1 4 with
  | false => rfl
  | true =>
    obtain ⟨i, hi, rfl⟩ := (inB_iff (by decide)).mp hb
    rw [if_pos rfl, if_pos rfl, tn_nI' (by omega)]
    exact (sr.tl i hi).1
