/-! LAWS, KEYS, MENDING, TAKING BACK -/
theorem fndM_inv {g : Sg} (h : Inw g) (b m : Int32) : Inw (fndM g b m) := h.scr ⟨fun a ha => by
    unfold fndM
    rw [us_n _ (by omega), us_n _ (by omega), us_n _ (by omega)], rfl⟩ rfl rfl rfl rfl
theorem cnt_fnd {g : Sg} (h : Inw g) {C : Nat} (hC : C < 5) (h6 : tn (g 52 128) = C) (b m : Int32) {n : Nat} (h1 : 1 ≤ n) (hn : n < 5 ^ C) : fnd (cntC g 47) n b m = okM (nrM (cntC g) b) (5 ^ C) n m := by
  refine fnd_ok hC (rw := rwM g) (nm := nmM g) m (cnt_47 h h6) (fun x x1 x2 => ?_) h1 hn
  unfold nrM nrF
  rw [cm_52, cm_rw, cm_nm, h6, if_pos ⟨x1, x2⟩]
theorem cnt_fmN {g : Sg} (h : Inw g) {C : Nat} (hC : C < 5) (h6 : tn (g 52 128) = C) (b m : Int32) : sm (fun i => ct1 (fnd (cntC g 47) (1 + i) b m)) (5 ^ C - 1) = fmN (cntC g) b m := by
  unfold fmN fdN
  rw [cm_52, h6]
  exact sm_congr fun i hi => by rw [cnt_fnd h hC h6 b m (by omega) (by omega)]
theorem op_laws {g : Sg} (h : Inw g) (a1 a2 : Int32) : ((gC g) = true) ∧ ((gM (if csB a1 a2 = true then cntC g else g)) = true) ∧ ((if csB a1 a2 = true then nI (sm (fun i => ct1 (fnd (cntC g 47) (1 + i) a1 a2)) (5 ^ tn (g 1 0) - 1)) else -1) = (if csB a1 a2 = true then nI (fmN (if csB a1 a2 = true then cntC g else g) a1 a2) else -1)) ∧ (Inw (if csB a1 a2 = true then fndM (if csB a1 a2 = true then cntC g else g) a1 a2 else (if csB a1 a2 = true then cntC g else g))) := by
  have sr := h.sr
  obtain ⟨C, h1, h2, h3, h4, h5, h6⟩ := inv_C sr
  cases hb : csB a1 a2 with
  | false =>
    simp only [Bool.false_eq_true, if_false]
    exact ⟨inv_gC sr, inv_gM sr, trivial, h⟩
  | true =>
    simp only [if_true]
    refine ⟨inv_gC sr, cnt_gM h, ?_, fndM_inv (cnt_inv h) _ _⟩
    rw [h5, cnt_fmN h h2 h6]
theorem op_law {g : Sg} (h : Inw g) (a1 a2 a3 : Int32) : ((gC g) = true) ∧ ((gM (if (csB a1 a2 && decide (0 ≤ a3)) = true then cntC g else g)) = true) ∧ ((if (csB a1 a2 && decide (0 ≤ a3)) = true then finV (fin (fun n => fnd (cntC g 47) n a1 a2) (5 ^ tn (g 1 0) - 1) 1 (tn a3)) else -1) = (if (csB a1 a2 && inB a3 (fmN (if (csB a1 a2 && decide (0 ≤ a3)) = true then cntC g else g) a1 a2)) = true then fndM (if (csB a1 a2 && decide (0 ≤ a3)) = true then cntC g else g) a1 a2 56 (tn a3) else -1)) ∧ (Inw (if csB a1 a2 = true then fndM (if (csB a1 a2 && decide (0 ≤ a3)) = true then cntC g else g) a1 a2 else (if (csB a1 a2 && decide (0 ≤ a3)) = true then cntC g else g))) := by
  have sr := h.sr
  obtain ⟨C, h1, h2, h3, h4, h5, h6⟩ := inv_C sr
  have h625 := p5_le h2
  cases hb : csB a1 a2 with
  | false =>
    simp only [Bool.false_and, Bool.false_eq_true, if_false]
    exact ⟨inv_gC sr, inv_gM sr, trivial, h⟩
  | true =>
    simp only [Bool.true_and, if_true]
    by_cases h0 : 0 ≤ a3
    · have e0 : decide (0 ≤ a3) = true := decide_eq_true h0
      simp only [e0, if_true]
      refine ⟨inv_gC sr, cnt_gM h, ?_, fndM_inv (cnt_inv h) _ _⟩
      have hf : fin (fun n => fnd (cntC g 47) n a1 a2) (5 ^ C - 1) 1 (tn a3) = fin (fun n => okM (nrM (cntC g) a1) (5 ^ C) n a2) (5 ^ C - 1) 1 (tn a3) := fin_congr fun x x1 x2 => cnt_fnd h h2 h6 a1 a2 x1 (by omega)
      have em : fmN (cntC g) a1 a2 = fdN (nrM (cntC g) a1) (5 ^ C) a2 (5 ^ C - 1) := by
        unfold fmN
        rw [cm_52, h6]
      have e56 : fndM (cntC g) a1 a2 56 = fdF (nrM (cntC g) a1) (5 ^ C) a2 (cntC g 56) (5 ^ C - 1) := by
        show fdF (nrM (cntC g) a1) (5 ^ tn (cntC g 52 128)) a2 (cntC g 56) (5 ^ tn (cntC g 52 128) - 1) = _
        rw [cm_52, h6]
      have hlt := fmN_lt (cntC g) a1 a2 (cnt_gM h)
      have hin : inB a3 (fmN (cntC g) a1 a2) = decide (tn a3 < fmN (cntC g) a1 a2) := by
        unfold inB
        have : ¬ a3 < 0 := Int32.not_lt.mpr h0
        rw [decide_eq_false this, Bool.false_or]
        show (!decide (fmN (cntC g) a1 a2 ≤ tn a3)) = _
        by_cases q : tn a3 < fmN (cntC g) a1 a2
        · rw [decide_eq_true q, decide_eq_false (by omega)]; rfl
        · rw [decide_eq_false q, decide_eq_true (by omega)]; rfl
      rw [h5, hf, hin, e56, em]
      rcases fin_fd (nrM (cntC g) a1) (5 ^ C) a2 (cntC g 56) (tn a3) (5 ^ C - 1) with ⟨x, x1, x2, x3⟩ | ⟨x1, x2⟩
      · rw [x1, x3, decide_eq_true x2, if_pos rfl]
        rfl
      · rw [x2, decide_eq_false (by omega), if_neg (by decide)]
        rfl
    · have e0 : decide (0 ≤ a3) = false := decide_eq_false h0
      simp only [e0, Bool.false_eq_true, if_false]
      refine ⟨inv_gC sr, inv_gM sr, ?_, fndM_inv h _ _⟩
      have : inB a3 (fmN g a1 a2) = false := inB_lt (by have := fmN_lt g a1 a2 (inv_gM sr); omega) (Int32.not_le.mp h0)
      rw [this]
      rfl
theorem p2_le {C : Nat} (hC : C < 5) : 2 ^ C ≤ 16 := by
  have : 2 ^ C ≤ 2 ^ 4 := Nat.pow_le_pow_right (by decide) (by omega)
  simpa using this
theorem op_settles {g : Sg} (h : Inw g) (a1 : Int32) : ((gC g) = true) ∧ ((gM (if inB a1 (2 ^ tn (g 1 0)) = true then cntC g else g)) = true) ∧ ((if inB a1 (2 ^ tn (g 1 0)) = true then nI (sett (cntC g 47) (tn a1) (tn (g 1 0))) else -1) = (if inB a1 (2 ^ tn ((if inB a1 (2 ^ tn (g 1 0)) = true then cntC g else g) 52 128)) = true then nI (mskN (stP (rwM (if inB a1 (2 ^ tn (g 1 0)) = true then cntC g else g)) (tn ((if inB a1 (2 ^ tn (g 1 0)) = true then cntC g else g) 52 128)) (nmM (if inB a1 (2 ^ tn (g 1 0)) = true then cntC g else g)) (tn a1) 16 0) (tn ((if inB a1 (2 ^ tn (g 1 0)) = true then cntC g else g) 52 128))) else -1)) ∧ (Inw (if inB a1 (2 ^ tn (g 1 0)) = true then cntC g else g)) := by
  have sr := h.sr
  obtain ⟨C, h1, h2, h3, h4, h5, h6⟩ := inv_C sr
  have h16 := p2_le h2
  rw [h5]
  cases hb : inB a1 (2 ^ C) with
  | false =>
    simp only [Bool.false_eq_true, if_false, h6, hb]
    exact ⟨inv_gC sr, inv_gM sr, trivial, h⟩
  | true =>
    simp only [if_true, cm_52, h6, hb, cm_rw, cm_nm]
    refine ⟨inv_gC sr, cnt_gM h, ?_, cnt_inv h⟩
    obtain ⟨n, hn, rfl⟩ := (inB_iff (by omega)).mp hb
    rw [tn_nI' (by omega), sett_eq h2 hn (cnt_47 h h6)]
theorem op_keys {g : Sg} (h : Inw g) : ((gC g) = true) ∧ ((gM (cntC g)) = true) ∧ ((nI (sm (fun n => ct1 (lky (cntC g 47) n)) (2 ^ tn (g 1 0)))) = (nI (sm (fun n => ct1 (lkB (tn ((cntC g) 52 128)) (rwM (cntC g)) (nmM (cntC g)) n)) (2 ^ tn ((cntC g) 52 128))))) ∧ (Inw (cntC g)) := by
  have sr := h.sr
  obtain ⟨C, h1, h2, h3, h4, h5, h6⟩ := inv_C sr
  refine ⟨inv_gC sr, cnt_gM h, ?_, cnt_inv h⟩
  rw [h5, cm_52, h6, cm_rw, cm_nm]
  refine congrArg nI (sm_congr fun n hn => ?_)
  rw [lk_eq h2 hn (cnt_47 h h6)]
theorem op_key {g : Sg} (h : Inw g) (a1 : Int32) : ((gC g) = true) ∧ ((gM (if 0 ≤ a1 then cntC g else g)) = true) ∧ ((if 0 ≤ a1 then finV (fin (lky (cntC g 47)) (2 ^ tn (g 1 0)) 0 (tn a1)) else -1) = (if 0 ≤ a1 then finV (fin (lkB (tn ((if 0 ≤ a1 then cntC g else g) 52 128)) (rwM (if 0 ≤ a1 then cntC g else g)) (nmM (if 0 ≤ a1 then cntC g else g))) (2 ^ tn ((if 0 ≤ a1 then cntC g else g) 52 128)) 0 (tn a1)) else -1)) ∧ (Inw (if 0 ≤ a1 then cntC g else g)) := by
  have sr := h.sr
  obtain ⟨C, h1, h2, h3, h4, h5, h6⟩ := inv_C sr
  by_cases h0 : 0 ≤ a1
  · simp only [h0, if_true]
    refine ⟨inv_gC sr, cnt_gM h, ?_, cnt_inv h⟩
    rw [h5, cm_52, h6, cm_rw, cm_nm]
    congr 1
    exact fin_congr fun x _ hx => lk_eq h2 (by omega) (cnt_47 h h6)
  · simp only [h0, if_false]
    exact ⟨inv_gC sr, inv_gM sr, trivial, h⟩
theorem cfM_inv {g : Sg} (h : Inw g) : Inw (cfM g) := h.scr ⟨fun a ha => us_n _ (by omega), rfl⟩ rfl rfl rfl rfl
theorem inv_isOK {g : Sg} (h : SRq g 1 (g 52)) : isOK g = true := al_iff.mpr fun s hs => h.bz s hs
theorem me_val {g : Sg} (h : MeX g) {w : Int32} (hw : isI w 0 2 = true) : mdV g w = mmV g w := by
  obtain ⟨m, c, hm, hc, e1, e2, e3⟩ := h
  have e4 := e3 (g 57)
  unfold mdV mmV
  have hmb : mbP g 65536 = (nI m, nI c) := by
    unfold mbP
    exact e4
  rw [e1, e2, hmb, pk_div (by omega) (by decide) (by decide)]
  have ed : (c * 65536 + m) / 65536 = c := by omega
  have es : nI (c * 65536 + m) - nI c * nI 65536 = nI m := by
    rw [pk_mul, ← nI_add, Int32.add_comm, Int32.add_sub_cancel]
  rw [ed, es]
  by_cases w0 : w = 0
  · subst w0
    rw [if_pos rfl, if_neg (by decide), if_pos rfl]
  · by_cases w1 : w = 1
    · subst w1
      rw [if_neg w0, if_pos rfl, if_neg (by decide), if_neg w0]
    · have w2 : w = 2 := by
        obtain ⟨z1, z2⟩ := isI_c.mp hw
        rcases pk_ix w (show 3 < 2 ^ 31 by decide) with q | q | ⟨j, j1, j2⟩
        · exact absurd q z1
        · exact absurd (Int32.le_trans q z2) (by decide)
        · have : j = 0 ∨ j = 1 ∨ j = 2 := by omega
          rcases this with rfl | rfl | rfl
          · exact absurd j2 w0
          · exact absurd j2 w1
          · exact j2
      rw [if_neg w0, if_neg w1, if_pos w2]
theorem op_mend {g : Sg} (h : Inw g) (a1 : Int32) : ((gC g && toldOK g) = true) ∧ ((gM (if isI a1 0 2 = true then mdC g else g) && toldM (if isI a1 0 2 = true then mdC g else g) && isOK (if isI a1 0 2 = true then mdC g else g)) = true) ∧ ((if isI a1 0 2 = true then mdV (mdC g) a1 else -1) = (if isI a1 0 2 = true then mmV (if isI a1 0 2 = true then mdC g else g) a1 else -1)) ∧ (Inw (if isI a1 0 2 = true then cfM (if isI a1 0 2 = true then mdC g else g) else (if isI a1 0 2 = true then mdC g else g))) := by
  have sr := h.sr
  cases hb : isI a1 0 2 with
  | false =>
    simp only [Bool.false_eq_true, if_false]
    refine ⟨?_, ?_, trivial, h⟩
    · rw [inv_gC sr, (inv_told sr).1]; rfl
    · rw [inv_gM sr, (inv_told sr).2, inv_isOK sr]; rfl
  | true =>
    simp only [if_true]
    have sm := (md_inv h).sr
    refine ⟨?_, ?_, me_val (md_me h) hb, cfM_inv (md_inv h)⟩
    · rw [inv_gC sr, (inv_told sr).1]; rfl
    · rw [inv_gM sm, (inv_told sm).2, inv_isOK sm]; rfl
theorem und_inv {g : Sg} (h : Inw g) (h0 : ¬ g 7 2 = 0) : Inw (undM (undC g)) := by
  have hi := h.hi
  have hx : tn (g 7 1) < 6 := by
    obtain ⟨k, x, _, hx, h1, _⟩ := hi
    rw [h1, tn_nI' (by omega)]
    exact hx
  have ou : ∀ a, ¬ a = 0 → undC g a = backC g a := fun a ha => us_n _ ha
  have ob : ∀ a, 8 ≤ a → backC g a = g a := by
    intro a ha
    unfold backC
    rw [cpS_out (by omega), us_n _ (by omega)]
  have om : ∀ a, ¬ a = 51 ∧ ¬ a = 52 → undM (undC g) a = undC g a := fun a ha => by
    unfold undM
    rw [us_n _ ha.2, us_n _ ha.1]
  have e0 : undM (undC g) 0 = upd (upd (g 0) 4 0) 5 0 := by
    rw [om 0 (by omega)]
    exact us_s _ _ _
  have u51 : undC g 51 = g 51 := by rw [ou 51 (by omega), ob 51 (by omega)]
  have u52 : undC g 52 = g 52 := by rw [ou 52 (by omega), ob 52 (by omega)]
  have u53 : undC g 53 = g 53 := by rw [ou 53 (by omega), ob 53 (by omega)]
  obtain ⟨hh, hs⟩ := Hi_back (g' := undM (undC g)) hi h0 (by rw [om 7 (by omega), ou 7 (by omega)]) (fun a a9 a45 => by rw [om a (by omega), ou a (by omega), ob a (by omega)]) (by rw [om 53 (by omega), u53]) (by
    show upd (undC g 51) 2 (undC g 51 2 - nI 1) 2 = _
    rw [pk_us, u51]) (fun a a1 a6 => by rw [om a (by omega), ou a (by omega)]) (by
    show copF (undC g 52) (fun j => undC g 53 (133 * (tn (undC g 51 2) - 1) + j)) 0 133 = _
    rw [u51, u52, u53])
  refine ⟨hs, hh, fun q => ?_, fun q => ?_⟩
  · rw [e0, pk_un (by decide), pk_us] at q
    exact absurd rfl q
  · rw [e0, pk_us] at q
    exact absurd rfl q
theorem op_undo {g : Sg} (h : Inw g) : ((gH g) = true) ∧ ((gK (if g 7 2 = 0 then g else undC g)) = true) ∧ ((b2i (!decide (g 7 2 = 0))) = (b2i (!decide ((if g 7 2 = 0 then g else undC g) 51 2 = 0)))) ∧ (Inw (if (if g 7 2 = 0 then g else undC g) 51 2 = 0 then (if g 7 2 = 0 then g else undC g) else undM (if g 7 2 = 0 then g else undC g))) := by
  have hi := h.hi
  have ek : g 7 2 = g 51 2 := by
    obtain ⟨k, x, _, _, _, h2, h3, _⟩ := hi
    rw [h2, h3]
  by_cases h0 : g 7 2 = 0
  · have h1 : g 51 2 = 0 := by rw [← ek]; exact h0
    simp only [h0, h1, if_true]
    exact ⟨inv_gH hi, inv_gK hi, trivial, h⟩
  · have e51 : undC g 51 2 = g 51 2 := by
      show backC g 51 2 = _
      unfold backC
      rw [cpS_out (by omega), us_n _ (by omega)]
    have h1 : ¬ undC g 51 2 = 0 := by rw [e51, ← ek]; exact h0
    simp only [h0, h1, if_false]
    refine ⟨inv_gH hi, ?_, trivial, und_inv h h0⟩
    have := inv_gK hi
    unfold gK at this ⊢
    rw [e51]
    exact this
