/-! WHAT FOLLOWS FROM IT -/
theorem MeOK_def : True := trivial
def MeX (g : Sg) : Prop := ∃ m c, m < 65536 ∧ c < 16 * 100 ∧ g 48 3 = nI (c * 65536 + m) ∧ g 48 2 = nI (cnP (b1M g) 16 0) ∧ ∀ a0, bfP (okS g (foF (b1M g) a0 16 0)) (fun n => wsI (prM3 g) n 16) 65536 = (nI m, nI c)
theorem inv_C {g : Sg} (h : SRq g 1 (g 52)) : ∃ C, 1 ≤ C ∧ C < 5 ∧ g 1 0 = nI C ∧ g 52 128 = nI C ∧ tn (g 1 0) = C ∧ tn (g 52 128) = C := by
  obtain ⟨C, h1, h2, h3⟩ := h.col
  have h4 := h.cm
  exact ⟨C, h1, by omega, h3, by rw [h4, h3], by rw [h3, tn_nI' (by omega)], by rw [h4, h3, tn_nI' (by omega)]⟩
theorem inv_gC {g : Sg} (h : SRq g 1 (g 52)) : gC g = true := by
  obtain ⟨C, h1, h2, h3, _⟩ := inv_C h
  unfold gC
  rw [h3]
  exact inB_nI h2 (by decide)
theorem inv_gM {g : Sg} (h : SRq g 1 (g 52)) : gM g = true := by
  obtain ⟨C, h1, h2, _, h3, _⟩ := inv_C h
  unfold gM
  rw [h3]
  exact inB_nI h2 (by decide)
theorem inv_gH {g : Sg} (h : Hi g) : gH g = true := by
  obtain ⟨k, x, hk, hx, h1, _⟩ := h
  unfold gH
  rw [h1]
  exact inB_nI hx (by decide)
theorem inv_gK {g : Sg} (h : Hi g) : gK g = true := by
  obtain ⟨k, x, hk, hx, _, _, h1, _⟩ := h
  unfold gK
  rw [h1]
  exact inB_nI (by omega) (by decide)
theorem rw_eq {g : Sg} (h : SRq g 1 (g 52)) {s : Nat} (hs : s < 16) : rwC g s = rwM g s := by
  have := h.rw s hs
  unfold rwC rwM
  by_cases q : g 52 (8 * s) = 1
  · have : ¬ g 2 s = -1 := fun z => this.mp z q
    simp [q, this]
  · have : g 2 s = -1 := this.mpr q
    simp [q, this]
theorem rwM_1 {g : Sg} {s : Nat} (h : rwM g s = true) : g 52 (8 * s) = 1 := by
  unfold rwM at h
  simpa using h
theorem nm_eq {g : Sg} (h : SRq g 1 (g 52)) {s c : Nat} (hs : s < 16) (hr : rwM g s = true) (hc : c < 4) : nmC g s c = nmM g s c := h.nb s hs (rwM_1 hr) c hc
theorem rowB_eq {g : Sg} (h : SRq g 1 (g 52)) (a : Int32) : rowB g a = rowM g a := by
  unfold rowB rowM
  cases hb : inB a 16 with
  | false => rfl
  | true =>
    obtain ⟨s, hs, rfl⟩ := (inB_iff (by decide)).mp hb
    rw [tn_nI' (by omega), rw_eq h hs]
theorem rowM_in {g : Sg} {a : Int32} (h : rowM g a = true) : ∃ s, s < 16 ∧ a = nI s ∧ rwM g s = true := by
  unfold rowM at h
  rw [Bool.and_eq_true] at h
  obtain ⟨s, hs, rfl⟩ := (inB_iff (by decide)).mp h.1
  rw [tn_nI' (by omega)] at h
  exact ⟨s, hs, rfl, h.2⟩
theorem colM_inB {g : Sg} {C : Nat} (hC : C < 5) (h : g 52 128 = nI C) (a : Int32) : colM g a = inB a C := by
  unfold colM
  rw [h]
  exact isI_in0 (by omega) a
theorem colB_inB {g : Sg} {C : Nat} (hC : C < 5) (h : g 1 0 = nI C) (a : Int32) : colB g a = inB a C := by
  unfold colB
  rw [h]
  have hz : (0 : Int32) = nI 0 := rfl
  rcases pk_ix a (show C < 2 ^ 31 by omega) with q | q | ⟨j, h1, h2⟩
  · rw [inB_lt (by omega) q]
    have : ¬ (0 : Int32) ≤ a := Int32.not_le.mpr q
    simp [this]
  · rw [inB_ge (by omega) q]
    have : ¬ a < nI C := Int32.not_lt.mpr q
    simp [this]
  · rw [h2, inB_nI h1 (by omega), hz, decide_eq_true ((nI_leI (by omega) (by omega)).mpr (Nat.zero_le j)), decide_eq_true ((nI_ltI (by omega) (by omega)).mpr h1)]
    rfl
theorem colB_eq {g : Sg} (h : SRq g 1 (g 52)) (a : Int32) : colB g a = colM g a := by
  obtain ⟨C, h1, h2, h3, h4, _⟩ := inv_C h
  rw [colB_inB h2 h3, colM_inB h2 h4]
theorem colM_in4 {g : Sg} (h : SRq g 1 (g 52)) {a : Int32} (hc : colM g a = true) : ∃ c, c < 4 ∧ a = nI c := by
  obtain ⟨C, h1, h2, h3, h4, _⟩ := inv_C h
  rw [colM_inB h2 h4] at hc
  obtain ⟨c, hc1, rfl⟩ := (inB_iff (by omega)).mp hc
  exact ⟨c, by omega, rfl⟩
theorem btw_eq {g : Sg} (h : SRq g 1 (g 52)) {C : Nat} (hC : C < 5) {s t : Nat} (hs : s < 16) (ht : t < 16) (rs : rwM g s = true) (rt : rwM g t = true) : btw C (nmC g) s t = btw C (nmM g) s t := by
  unfold btw
  exact sm_congr fun c hc => by rw [nm_eq h hs rs (by omega), nm_eq h ht rt (by omega)]
theorem pb_eq {g : Sg} (h : SRq g 1 (g 52)) {s t n : Nat} (hs : s < 16) (ht : t < 16) (hn : n < 5 ^ tn (g 52 128)) : pbC g s t n = brB (tn (g 52 128)) (rwM g) (nmM g) n s t := by
  obtain ⟨C, h1, h2, h3, h4, h5, h6⟩ := inv_C h
  unfold pbC brB
  rw [h6] at hn
  have h625 := p5_le h2
  rw [h5, h6, rw_eq h hs, rw_eq h ht]
  cases rs : rwM g s with
  | false => rfl
  | true =>
    cases rt : rwM g t with
    | false => rfl
    | true =>
      rw [btw_eq h h2 hs ht rs rt, cov_so h2 hn, cov_so h2 (tun_ltC n (by omega) C h2 hn), so_tun h2 hn]
theorem told_in {g : Sg} (h : SRq g 1 (g 52)) {i : Nat} (hi : i < 4) : ∃ n, n < 5 ^ tn (g 52 128) ∧ g 52 (129 + i) = nI n ∧ g 6 i = nI n ∧ n < 625 := by
  obtain ⟨C, h1, h2, h3, h4, h5, h6⟩ := inv_C h
  have h625 := p5_le h2
  obtain ⟨e1, e2⟩ := h.tl i hi
  rw [h6] at e2
  obtain ⟨n, hn, e⟩ := (inB_iff (by omega)).mp e2
  exact ⟨n, by rw [h6]; exact hn, e, by rw [← e]; exact e1, by omega⟩
theorem b1_eq {g : Sg} (h : SRq g 1 (g 52)) {s t : Nat} (hs : s < 16) (ht : t < 16) : b1C g s t = b1M g s t := by
  unfold b1C b1M
  congr 1
  refine al_congr fun i hi => ?_
  obtain ⟨n, hn, e1, e2, _⟩ := told_in h hi
  rw [e1, e2, tn_nI' (by omega), pb_eq h hs ht hn]
theorem inv_told {g : Sg} (h : SRq g 1 (g 52)) : toldOK g = true ∧ toldM g = true := by
  refine ⟨al_iff.mpr fun i hi => ?_, al_iff.mpr fun i hi => ?_⟩
  · obtain ⟨n, hn, e1, e2, e3⟩ := told_in h hi
    rw [e2]; exact inB_nI e3 (by decide)
  · obtain ⟨n, hn, e1, e2, e3⟩ := told_in h hi
    rw [e1]; exact inB_nI e3 (by decide)
-- agreement
def Agr (g g' : Sg) : Prop := (∀ a, (1 ≤ a ∧ a ≤ 7) ∨ (9 ≤ a ∧ a < 45) ∨ a = 52 ∨ a = 53 → g' a = g a) ∧ g' 51 2 = g 51 2
theorem Agr.sr {g g' : Sg} (e : Agr g g') (h : SRq g 1 (g 52)) : SRq g' 1 (g' 52) := by
  have e1 := e.1
  refine h.tr ⟨?_, fun i _ => ?_, fun i _ => ?_, fun i _ => ?_, fun i _ => ?_, fun i _ => ?_⟩ fun i _ => ?_
  · rw [e1 1 (by omega)]
  · rw [e1 2 (by omega)]
  · rw [e1 3 (by omega)]
  · rw [e1 4 (by omega)]
  · rw [e1 5 (by omega)]
  · rw [e1 6 (by omega)]
  · rw [e1 52 (by omega)]
theorem Agr.hi {g g' : Sg} (e : Agr g g') (h : Hi g) : Hi g' := by
  have e1 := e.1
  obtain ⟨k, x, hk, hx, h1, h2, h3, h4⟩ := h
  refine ⟨k, x, hk, hx, by rw [e1 7 (by omega), h1], by rw [e1 7 (by omega), h2], by rw [e.2, h3], fun j hj => ?_⟩
  have hr : (x + 5 - j) % 6 < 6 := Nat.mod_lt _ (by decide)
  have old := h4 j hj
  generalize (x + 5 - j) % 6 = r at hr old ⊢
  refine old.tr ⟨?_, fun i _ => ?_, fun i _ => ?_, fun i _ => ?_, fun i _ => ?_, fun i _ => ?_⟩ fun i _ => ?_
  · rw [e1 (9 + 6 * r) (by omega)]
  · rw [e1 (9 + 6 * r + 1) (by omega)]
  · rw [e1 (9 + 6 * r + 2) (by omega)]
  · rw [e1 (9 + 6 * r + 3) (by omega)]
  · rw [e1 (9 + 6 * r + 4) (by omega)]
  · rw [e1 (9 + 6 * r + 5) (by omega)]
  · rw [e1 53 (by omega)]
theorem ta_congr {g g' : Sg} (h : TaOK g) (e52 : g' 52 = g 52) (e46 : g' 46 = g 46) (e47 : g' 47 = g 47) : TaOK g' := by
  have r1 : rwM g' = rwM g := by unfold rwM; rw [e52]
  have r2 : nmM g' = nmM g := by unfold nmM; rw [e52]
  unfold TaOK
  rw [r1, r2, e52, e46, e47]
  exact h
theorem b1M_congr {g g' : Sg} (e52 : g' 52 = g 52) : b1M g' = b1M g := by
  have r1 : rwM g' = rwM g := by unfold rwM; rw [e52]
  have r2 : nmM g' = nmM g := by unfold nmM; rw [e52]
  unfold b1M
  rw [r1, r2, e52]
theorem me_congr {g g' : Sg} (h : MeX g) (e52 : g' 52 = g 52) (e48 : g' 48 = g 48) : MeX g' := by
  have r1 : rwM g' = rwM g := by unfold rwM; rw [e52]
  have r3 : okS g' = okS g := by unfold okS; rw [r1]
  have r4 : prM3 g' = prM3 g := by unfold prM3; rw [e52]
  unfold MeX
  rw [b1M_congr e52, e48, r3, r4]
  exact h
abbrev Inw (g : Sg) : Prop := (SRq g 1 (g 52)) ∧ Hi g ∧ (¬ g 0 4 = 0 → TaOK g) ∧ (¬ g 0 5 = 0 → MeX g)
theorem Inw.sr {g : Sg} (h : Inw g) : SRq g 1 (g 52) := h.1
theorem Inw.hi {g : Sg} (h : Inw g) : Hi g := h.2.1
theorem Inw.ta {g : Sg} (h : Inw g) : ¬ g 0 4 = 0 → TaOK g := h.2.2.1
theorem Inw.me {g : Sg} (h : Inw g) : ¬ g 0 5 = 0 → MeX g := h.2.2.2
theorem Inw.scr {g g' : Sg} (h : Inw g) (e : Agr g g') (e0 : g' 0 = g 0) (e46 : g' 46 = g 46) (e47 : g' 47 = g 47) (e48 : g' 48 = g 48) : Inw g' := by
  have e52 := e.1 52 (by omega)
  refine ⟨e.sr h.sr, e.hi h.hi, fun q => ta_congr (h.ta (by rw [← e0]; exact q)) e52 e46 e47, fun q => me_congr (h.me (by rw [← e0]; exact q)) e52 e48⟩
-- counting
theorem cnt_out {g : Sg} {a : Nat} (ha : ¬ a = 0 ∧ ¬ a = 46 ∧ ¬ a = 47) : cntC g a = g a := by
  unfold cntC
  by_cases q : g 0 4 = 0
  · rw [if_pos q, us_n _ ha.1]
    unfold recG
    rw [us_n _ ha.2.2, us_n _ ha.2.1]
  · rw [if_neg q]
theorem cnt_agr (g : Sg) : Agr g (cntC g) := ⟨fun a ha => cnt_out (by omega), by rw [cnt_out (by omega)]⟩
theorem cnt_ta {g : Sg} (h : Inw g) : TaOK (cntC g) := by
  obtain ⟨C, h1, h2, h3, h4, h5, h6⟩ := inv_C h.sr
  have e52 : cntC g 52 = g 52 := cnt_out (by omega)
  have r1 : rwM (cntC g) = rwM g := by unfold rwM; rw [e52]
  have r2 : nmM (cntC g) = nmM g := by unfold nmM; rw [e52]
  by_cases q : g 0 4 = 0
  · have ec : cntC g = us (recG g) 0 (upd (g 0) 4 1) := by unfold cntC; rw [if_pos q]
    have key : ∀ b, seenN (rwC g) (btw C (nmC g)) b = seenN (rwM g) (btw C (nmM g)) b := by
      intro b
      unfold seenN pair2
      refine sm_congr fun s hs => sm_congr fun t ht => ?_
      rw [rw_eq h.sr hs, rw_eq h.sr ht]
      cases rs : rwM g s with
      | false => simp
      | true =>
        cases rt : rwM g t with
        | false => simp
        | true => rw [btw_eq h.sr h2 hs ht rs rt]
    have e46 : ∀ b, b < 625 → seenP (rwC g) (btw (tn (g 1 0)) (nmC g)) (g 46) 16 0 b = nI (seenN (rwM g) (btw C (nmM g)) b) := by
      intro b hb
      unfold seenP
      rw [if_pos hb, h5, ← key]
      rfl
    have c46 : cntC g 46 = seenP (rwC g) (btw (tn (g 1 0)) (nmC g)) (g 46) 16 0 := by rw [ec]; rfl
    have c47 : cntC g 47 = brkF (cp625 (seenP (rwC g) (btw (tn (g 1 0)) (nmC g)) (g 46) 16 0) (g 47)) (tn (g 1 0)) := by rw [ec]; rfl
    unfold TaOK
    rw [r1, r2, e52, h6]
    refine ⟨fun b hb => by rw [c46]; exact e46 b hb, fun n hn => ?_⟩
    rw [c47, h5]
    refine brk_eq h2 (rwM g) (nmM g) (fun x hx => ?_) hn
    unfold cp625
    rw [sb_cpy0 hx, ← h5]
    rw [h5]
    have := e46 x hx
    rw [h5] at this
    exact this
  · have ec : cntC g = g := by unfold cntC; rw [if_neg q]
    rw [ec]
    exact h.ta q
theorem cnt_inv {g : Sg} (h : Inw g) : Inw (cntC g) := by
  have e := cnt_agr g
  refine ⟨e.sr h.sr, e.hi h.hi, fun _ => cnt_ta h, fun q => ?_⟩
  have e05 : cntC g 0 5 = g 0 5 := by
    unfold cntC
    by_cases z : g 0 4 = 0
    · rw [if_pos z, us_s, pk_un (by decide)]
    · rw [if_neg z]
  rw [e05] at q
  exact me_congr (h.me q) (cnt_out (by omega)) (cnt_out (by omega))
-- mending
theorem md_out {g : Sg} {a : Nat} (ha : ¬ a = 0 ∧ ¬ a = 48 ∧ ¬ a = 49 ∧ ¬ a = 50) : mdC g a = g a := by
  unfold mdC
  by_cases q : g 0 5 = 0
  · rw [if_pos q, us_n _ ha.1]
    unfold seekG
    rw [us_n _ ha.2.1, us_n _ ha.2.2.2, us_n _ ha.2.2.1]
  · rw [if_neg q]
theorem md_me {g : Sg} (h : Inw g) : MeX (mdC g) := by
  by_cases q : g 0 5 = 0
  · have ec : mdC g = us (seekG g) 0 (upd (g 0) 5 1) := by unfold mdC; rw [if_pos q]
    have e52 : mdC g 52 = g 52 := md_out (by omega)
    have fo : ∀ a0 a1, ∀ s, s < 16 → foF (b1C g) a0 16 0 s = foF (b1M g) a1 16 0 s := by
      intro a0 a1 s hs
      unfold foF
      rw [if_pos hs, if_pos hs]
      congr 1
      refine msk_congr fun y hy => ?_
      unfold FP
      by_cases z : s = y
      · simp [z]
      · rw [b1_eq h.sr (show min s y < 16 by omega) (show max s y < 16 by omega)]
    obtain ⟨m, c, hm, hc, e1, e2⟩ := mend_eq (B := b1M g) (rw := rwM g) (pr := prM3 g) (wI := wtF g (g 50) 16) (fI := foF (b1C g) (g 49) 16 0) (f0 := g 49) (p := fun s => tn (prM3 g s)) (fun s t hst ht hb => by
        unfold b1M at hb
        rw [Bool.not_eq_true'] at hb
        refine Classical.byContradiction fun z => ?_
        have : al (fun i => !(!decide (g 52 (129 + i) = 0) && brB (tn (g 52 128)) (rwM g) (nmM g) (tn (g 52 (129 + i))) s t)) 4 = true := al_iff.mpr fun i _ => by
          have : brB (tn (g 52 128)) (rwM g) (nmM g) (tn (g 52 (129 + i))) s t = false := by
            unfold brB
            cases rs : rwM g s <;> cases rt : rwM g t <;> simp_all
          rw [this]
          simp
        rw [hb] at this
        cases this) (fun s hs hr => by
        obtain ⟨_, p, hp, e⟩ := h.sr.pr s hs (rwM_1 hr)
        have : prM3 g s = nI p := e
        rw [this, tn_nI' (by omega)]
        exact ⟨rfl, hp⟩) (fun s hs => by
        unfold wtF
        rw [if_pos hs]
        unfold wt1
        rw [rw_eq h.sr hs]
        by_cases hr : rwM g s = true
        · rw [if_pos hr, if_pos hr]
          have := (h.sr.pr s hs (rwM_1 hr)).1
          rw [show g 4 s = prM3 g s from this]
        · rw [if_neg hr, if_neg hr]) (fun s hs => fo _ _ s hs)
    have e48 : mdC g 48 = upd (upd (g 48) 2 (nI (cnP (b1C g) 16 0))) 3 (lcI (foF (b1C g) (g 49) 16 0) (wtF g (g 50) 16) 17 65535) := by rw [ec]; rfl
    have r1 : rwM (mdC g) = rwM g := by unfold rwM; rw [e52]
    have r3 : okS (mdC g) = okS g := by unfold okS; rw [r1]
    have r4 : prM3 (mdC g) = prM3 g := by unfold prM3; rw [e52]
    have hok : ∀ a0, okS g (foF (b1M g) a0 16 0) = fun n => decide (n &&& (65535 ^^^ mskN (rwM g) 16) = 0) && gdB (foF (b1C g) (g 49) 16 0) n 16 := by
      intro a0
      funext n
      unfold okS gdB
      have : al (fun s => bit n s || decide (tn (foF (b1M g) a0 16 0 s) &&& (65535 ^^^ n) = 0)) 16 = al (fun s => bit n s || decide (tn (foF (b1C g) (g 49) 16 0 s) &&& (65535 ^^^ n) = 0)) 16 := al_congr fun s hs => by rw [fo (g 49) a0 s hs]
      rw [this]
    unfold MeX
    rw [b1M_congr e52, r3, r4, e48, pk_us, pk_un (by decide), pk_us]
    refine ⟨m, c, hm, hc, e1, ?_, fun a0 => ?_⟩
    · have : cnP (b1C g) 16 0 = cnP (b1M g) 16 0 := by
        unfold cnP
        have : sm (fun s => sm (fun i => ct1 (b1C g s (s + 1 + i))) (15 - s)) 16 = sm (fun s => sm (fun i => ct1 (b1M g s (s + 1 + i))) (15 - s)) 16 := sm_congr fun s hs => sm_congr fun i hi => by rw [b1_eq h.sr hs (by omega)]
        rw [this]
        rfl
      rw [this]
    · rw [hok a0]
      exact e2
  · have ec : mdC g = g := by unfold mdC; rw [if_neg q]
    rw [ec]
    exact h.me q
theorem md_inv {g : Sg} (h : Inw g) : Inw (mdC g) := by
  have e : Agr g (mdC g) := ⟨fun a ha => md_out (by omega), by rw [md_out (by omega)]⟩
  refine ⟨e.sr h.sr, e.hi h.hi, fun q => ?_, fun _ => md_me h⟩
  have e04 : mdC g 0 4 = g 0 4 := by
    unfold mdC
    by_cases z : g 0 5 = 0
    · rw [if_pos z, us_s, pk_un (by decide)]
    · rw [if_neg z]
  rw [e04] at q
  exact ta_congr (h.ta q) (md_out (by omega)) (md_out (by omega)) (md_out (by omega))
-- changes
theorem remC_0 (g : Sg) : remC g 0 = upd (upd (g 0) 4 0) 5 0 := us_s _ _ _
theorem remC_n {g : Sg} {a : Nat} (h : ¬ a = 0) : remC g a = keepC g a := us_n _ h
theorem keepM_n {g : Sg} {a : Nat} (h : ¬ a = 51 ∧ ¬ a = 53) : keepM g a = g a := by
  unfold keepM
  rw [us_n _ h.1, us_n _ h.2]
theorem chg {g g1 : Sg} (h : Inw g) (hg : ∀ a, a = 0 ∨ 7 ≤ a → g1 a = remC g a) (m' : Nat → Int32) (sr : SRq g1 1 m') : Inw (us (keepM g1) 52 m') := by
  obtain ⟨k, x, hk, hx, h1, h2, h3, h4⟩ := h.hi
  have out : ∀ a, 44 < a → g1 a = g a := fun a ha => by rw [hg a (by omega), remC_n (by omega), keepC_out hx h1 (by omega)]
  have n53 : keepM g1 53 = keepM g 53 := by
    show copF (kpF g1) (g1 52) (133 * kpN g1) 133 = copF (kpF g) (g 52) (133 * kpN g) 133
    unfold kpF kpN
    rw [out 51 (by omega), out 52 (by omega), out 53 (by omega)]
  have n51 : keepM g1 51 2 = keepM g 51 2 := by
    show upd (g1 51) 2 (nI (kpN g1 + 1)) 2 = upd (g 51) 2 (nI (kpN g + 1)) 2
    unfold kpN
    rw [out 51 (by omega)]
  have e0 : us (keepM g1) 52 m' 0 = upd (upd (g 0) 4 0) 5 0 := by
    rw [us_n _ (by omega), keepM_n (by omega), hg 0 (by omega), remC_0]
  refine ⟨?_, Hi_keep h.hi h.sr ?_ (fun a h9 h45 => ?_) ?_ ?_, fun q => ?_, fun q => ?_⟩
  · refine sr.tr ⟨?_, fun i _ => ?_, fun i _ => ?_, fun i _ => ?_, fun i _ => ?_, fun i _ => ?_⟩ fun i _ => ?_
    · rw [us_n _ (by omega), keepM_n (by omega)]
    · rw [us_n _ (by omega), keepM_n (by omega)]
    · rw [us_n _ (by omega), keepM_n (by omega)]
    · rw [us_n _ (by omega), keepM_n (by omega)]
    · rw [us_n _ (by omega), keepM_n (by omega)]
    · rw [us_n _ (by omega), keepM_n (by omega)]
    · rw [us_s]
  · rw [us_n _ (by omega), keepM_n (by omega), hg 7 (by omega), remC_n (by omega)]
  · rw [us_n _ (by omega), keepM_n (by omega), hg a (by omega), remC_n (by omega)]
  · rw [us_n _ (by omega), n53]
  · rw [us_n _ (by omega), n51]
  · rw [e0, pk_un (by decide), pk_us] at q
    exact absurd rfl q
  · rw [e0, pk_us] at q
    exact absurd rfl q
theorem chg_out {g g1 : Sg} (h : Inw g) (hg : ∀ a, a = 0 ∨ 7 ≤ a → g1 a = remC g a) {a : Nat} (ha : 44 < a) : g1 a = g a := by
  obtain ⟨k, x, hk, hx, h1, _⟩ := h.hi
  rw [hg a (by omega), remC_n (by omega), keepC_out hx h1 (by omega)]
theorem rem_low {g : Sg} (h : Inw g) {a : Nat} (h0 : ¬ a = 0) (ha : a < 7) : remC g a = g a := by
  obtain ⟨k, x, hk, hx, h1, _⟩ := h.hi
  rw [remC_n h0, keepC_out hx h1 (by omega)]
