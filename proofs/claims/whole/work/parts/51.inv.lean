/-! WHAT HOLDS BETWEEN THE CALLS -/
abbrev SRq (g : Sg) (q : Nat) (m : Nat → Int32) : Prop := (∃ C, 1 ≤ C ∧ C ≤ 4 ∧ g q 0 = nI C) ∧ (m 128 = g q 0) ∧ (∀ s, s < 16 → isB (m (8 * s)) = true) ∧ (∀ s, s < 16 → (g (q + 1) s = -1 ↔ ¬ m (8 * s) = 1)) ∧ (∀ s, s < 16 → m (8 * s) = 1 → g (q + 1) s = m (8 * s + 1)) ∧ (∀ s, s < 16 → m (8 * s) = 1 → g (q + 2) s = m (8 * s + 2)) ∧ (∀ s, s < 16 → m (8 * s) = 1 → g (q + 3) s = m (8 * s + 3) ∧ ∃ p, p ≤ 99 ∧ m (8 * s + 3) = nI p) ∧ (∀ s, s < 16 → m (8 * s) = 1 → ∀ c, c < 4 → g (q + 4) (s * 4 + c) = m (8 * s + (4 + c))) ∧ (∀ i, i < 4 → g (q + 5) i = m (129 + i) ∧ inB (m (129 + i)) (5 ^ tn (m 128)) = true)
theorem SRq.col {g : Sg} {q : Nat} {m : Nat → Int32} (h : SRq g q m) : ∃ C, 1 ≤ C ∧ C ≤ 4 ∧ g q 0 = nI C := h.1
theorem SRq.cm {g : Sg} {q : Nat} {m : Nat → Int32} (h : SRq g q m) : m 128 = g q 0 := h.2.1
theorem SRq.bz {g : Sg} {q : Nat} {m : Nat → Int32} (h : SRq g q m) : ∀ s, s < 16 → isB (m (8 * s)) = true := h.2.2.1
theorem SRq.rw {g : Sg} {q : Nat} {m : Nat → Int32} (h : SRq g q m) : ∀ s, s < 16 → (g (q + 1) s = -1 ↔ ¬ m (8 * s) = 1) := h.2.2.2.1
theorem SRq.kd {g : Sg} {q : Nat} {m : Nat → Int32} (h : SRq g q m) : ∀ s, s < 16 → m (8 * s) = 1 → g (q + 1) s = m (8 * s + 1) := h.2.2.2.2.1
theorem SRq.sz {g : Sg} {q : Nat} {m : Nat → Int32} (h : SRq g q m) : ∀ s, s < 16 → m (8 * s) = 1 → g (q + 2) s = m (8 * s + 2) := h.2.2.2.2.2.1
theorem SRq.pr {g : Sg} {q : Nat} {m : Nat → Int32} (h : SRq g q m) : ∀ s, s < 16 → m (8 * s) = 1 → g (q + 3) s = m (8 * s + 3) ∧ ∃ p, p ≤ 99 ∧ m (8 * s + 3) = nI p := h.2.2.2.2.2.2.1
theorem SRq.nb {g : Sg} {q : Nat} {m : Nat → Int32} (h : SRq g q m) : ∀ s, s < 16 → m (8 * s) = 1 → ∀ c, c < 4 → g (q + 4) (s * 4 + c) = m (8 * s + (4 + c)) := h.2.2.2.2.2.2.2.1
theorem SRq.tl {g : Sg} {q : Nat} {m : Nat → Int32} (h : SRq g q m) : ∀ i, i < 4 → g (q + 5) i = m (129 + i) ∧ inB (m (129 + i)) (5 ^ tn (m 128)) = true := h.2.2.2.2.2.2.2.2
def SEq (g : Sg) (a : Nat) (h : Sg) (b : Nat) : Prop := g a 0 = h b 0 ∧ (∀ i, i < 16 → g (a + 1) i = h (b + 1) i) ∧ (∀ i, i < 16 → g (a + 2) i = h (b + 2) i) ∧ (∀ i, i < 16 → g (a + 3) i = h (b + 3) i) ∧ (∀ i, i < 64 → g (a + 4) i = h (b + 4) i) ∧ (∀ i, i < 4 → g (a + 5) i = h (b + 5) i)
theorem SRq.tr {g g' : Sg} {a b : Nat} {m m' : Nat → Int32} (h : SRq g a m) (e : SEq g a g' b) (em : ∀ i, i < 133 → m i = m' i) : SRq g' b m' := by
  obtain ⟨e0, e1, e2, e3, e4, e5⟩ := e
  have em8 : ∀ s, s < 16 → m (8 * s) = m' (8 * s) := fun s hs => em _ (by omega)
  refine ⟨?_, ?_, fun s hs => ?_, fun s hs => ?_, fun s hs h1 => ?_, fun s hs h1 => ?_, fun s hs h1 => ?_, fun s hs h1 c hc => ?_, fun i hi => ?_⟩
  · rw [← e0]; exact h.col
  · rw [← em 128 (by decide), ← e0]; exact h.cm
  · rw [← em8 s hs]; exact h.bz s hs
  · rw [← e1 s hs, ← em8 s hs]; exact h.rw s hs
  · rw [← em8 s hs] at h1
    rw [← e1 s hs, ← em _ (by omega)]; exact h.kd s hs h1
  · rw [← em8 s hs] at h1
    rw [← e2 s hs, ← em _ (by omega)]; exact h.sz s hs h1
  · rw [← em8 s hs] at h1
    rw [← e3 s hs, ← em _ (by omega)]; exact h.pr s hs h1
  · rw [← em8 s hs] at h1
    rw [← e4 _ (by omega), ← em _ (by omega)]; exact h.nb s hs h1 c hc
  · rw [← e5 i hi, ← em _ (by omega), ← em 128 (by decide)]; exact h.tl i hi
theorem cpS_out {g : Sg} {s d a : Nat} (h : a < d ∨ d + 5 < a) : cpS g s d a = g a := by
  unfold cpS
  rw [us_n _ (by omega), us_n _ (by omega), us_n _ (by omega), us_n _ (by omega), us_n _ (by omega), us_n _ (by omega)]
theorem cpS_eq (g : Sg) (s d : Nat) : SEq g s (cpS g s d) d := by
  unfold cpS
  refine ⟨?_, fun i hi => ?_, fun i hi => ?_, fun i hi => ?_, fun i hi => ?_, fun i hi => ?_⟩
  · rw [us_n _ (by omega), us_n _ (by omega), us_n _ (by omega), us_n _ (by omega), us_n _ (by omega), us_s, pk_us]
  · rw [us_n _ (by omega), us_n _ (by omega), us_n _ (by omega), us_n _ (by omega), us_s, sb_cpy0 hi]
  · rw [us_n _ (by omega), us_n _ (by omega), us_n _ (by omega), us_s, sb_cpy0 hi]
  · rw [us_n _ (by omega), us_n _ (by omega), us_s, sb_cpy0 hi]
  · rw [us_n _ (by omega), us_s, sb_cpy0 hi]
  · rw [us_s, sb_cpy0 hi]
def Hi (g : Sg) : Prop := ∃ k x, k ≤ 6 ∧ x < 6 ∧ g 7 1 = nI x ∧ g 7 2 = nI k ∧ g 51 2 = nI k ∧ ∀ j, j < k → SRq g (9 + 6 * ((x + 5 - j) % 6)) (fun i => g 53 (133 * (k - 1 - j) + i))
theorem keepC_out {g : Sg} {x : Nat} (hx : x < 6) (h : g 7 1 = nI x) {a : Nat} (ha : a < 7 ∨ 44 < a) : keepC g a = g a := by
  unfold keepC
  rw [us_n _ (by omega), h, tn_nI' (by omega), cpS_out (by omega)]
theorem Hi_keep {g g' : Sg} (h : Hi g) (hs : SRq g 1 (g 52)) (e7 : g' 7 = keepC g 7) (er : ∀ a, 9 ≤ a → a < 45 → g' a = keepC g a) (e53 : g' 53 = keepM g 53) (e51 : g' 51 2 = keepM g 51 2) : Hi g' := by
  obtain ⟨k, x, hk, hx, h1, h2, h3, h4⟩ := h
  have kp : kpN g = min k 5 := by
    unfold kpN
    rw [h3]
    have : (6 : Int32) = nI 6 := rfl
    rw [this]
    by_cases q : k = 6
    · rw [if_pos (by rw [q]), q]; rfl
    · rw [if_neg (fun z => q ((nI_eq (by omega) (by omega)).mp z)), tn_nI' (by omega)]
      omega
  have m53 : keepM g 53 = copF (kpF g) (g 52) (133 * kpN g) 133 := rfl
  have m51 : keepM g 51 2 = nI (kpN g + 1) := by
    show upd (g 51) 2 (nI (kpN g + 1)) 2 = _
    rw [pk_us]
  have c7 : keepC g 7 = upd (upd (g 7) 1 (nI ((tn (g 7 1) + 1) % 6))) 2 (minI (g 7 2 + nI 1) (nI 6)) := us_s _ _ _
  have ca : ∀ a, ¬ a = 7 → keepC g a = cpS g 1 (9 + 6 * x) a := by
    intro a ha
    unfold keepC
    rw [us_n _ ha, h1, tn_nI' (by omega)]
  refine ⟨min k 5 + 1, (x + 1) % 6, by omega, by omega, ?_, ?_, ?_, fun j hj => ?_⟩
  · rw [e7, c7, pk_un (by decide), pk_us, h1, tn_nI' (by omega)]
  · rw [e7, c7, pk_us, h2, nI_add, min_nI (by omega) (by omega)]
    congr 1
    omega
  · rw [e51, m51, kp]
  · by_cases hj0 : j = 0
    · subst hj0
      have er' : ((x + 1) % 6 + 5 - 0) % 6 = x := by omega
      rw [er']
      refine hs.tr ?_ fun i hi => ?_
      · have cp := cpS_eq g 1 (9 + 6 * x)
        have ee : ∀ b, b < 6 → g' (9 + 6 * x + b) = cpS g 1 (9 + 6 * x) (9 + 6 * x + b) := fun b hb => by rw [er _ (by omega) (by omega), ca _ (by omega)]
        obtain ⟨c0, c1, c2, c3, c4, c5⟩ := cp
        refine ⟨?_, fun i hi => ?_, fun i hi => ?_, fun i hi => ?_, fun i hi => ?_, fun i hi => ?_⟩
        · have := ee 0 (by decide)
          rw [Nat.add_zero] at this
          rw [this]; exact c0
        · rw [ee 1 (by decide)]; exact c1 i hi
        · rw [ee 2 (by decide)]; exact c2 i hi
        · rw [ee 3 (by decide)]; exact c3 i hi
        · rw [ee 4 (by decide)]; exact c4 i hi
        · rw [ee 5 (by decide)]; exact c5 i hi
      · rw [e53, m53, kp]
        unfold copF
        rw [if_pos (by omega)]
        congr 1
        omega
    · have old := h4 (j - 1) (by omega)
      have er' : ((x + 1) % 6 + 5 - j) % 6 = (x + 5 - (j - 1)) % 6 := by omega
      rw [er']
      have hne : ¬ (x + 5 - (j - 1)) % 6 = x := by omega
      have hlt : (x + 5 - (j - 1)) % 6 < 6 := Nat.mod_lt _ (by decide)
      generalize (x + 5 - (j - 1)) % 6 = r at old hne hlt ⊢
      have ee : ∀ b, b < 6 → g' (9 + 6 * r + b) = g (9 + 6 * r + b) := fun b hb => by rw [er _ (by omega) (by omega), ca _ (by omega), cpS_out (by omega)]
      refine old.tr ⟨?_, fun i hi => ?_, fun i hi => ?_, fun i hi => ?_, fun i hi => ?_, fun i hi => ?_⟩ fun i hi => ?_
      · have := ee 0 (by decide)
        rw [Nat.add_zero] at this
        rw [this]
      · rw [ee 1 (by decide)]
      · rw [ee 2 (by decide)]
      · rw [ee 3 (by decide)]
      · rw [ee 4 (by decide)]
      · rw [ee 5 (by decide)]
      · rw [e53, m53, kp]
        unfold copF
        rw [if_neg (by omega)]
        unfold kpF
        rw [h3]
        have : (6 : Int32) = nI 6 := rfl
        rw [this]
        by_cases q : k = 6
        · rw [if_pos (by rw [q])]
          unfold shF
          rw [if_pos (by omega)]
          congr 1
          omega
        · rw [if_neg (fun z => q ((nI_eq (by omega) (by omega)).mp z))]
          congr 1
          omega
theorem nI_prd {k : Nat} (h : 1 ≤ k) : nI k - nI 1 = nI (k - 1) := by
  have e : nI k = nI (k - 1) + nI 1 := by rw [nI_add]; congr 1; omega
  rw [e, Int32.add_sub_cancel]
theorem Hi_back {g g' : Sg} (h : Hi g) (hk0 : ¬ g 7 2 = 0) (e7 : g' 7 = backC g 7) (er : ∀ a, 9 ≤ a → a < 45 → g' a = g a) (e53 : g' 53 = g 53) (e51 : g' 51 2 = g 51 2 - nI 1) (es : ∀ a, 1 ≤ a → a ≤ 6 → g' a = backC g a) (e52 : g' 52 = copF (g 52) (fun j => g 53 (133 * (tn (g 51 2) - 1) + j)) 0 133) : Hi g' ∧ SRq g' 1 (g' 52) := by
  obtain ⟨k, x, hk, hx, h1, h2, h3, h4⟩ := h
  have hk1 : 1 ≤ k := by
    rcases Nat.eq_zero_or_pos k with q | q
    · rw [q] at h2; exact absurd h2 hk0
    · exact q
  have b7 : backC g 7 = upd (upd (g 7) 1 (nI ((tn (g 7 1) + 5) % 6))) 2 (g 7 2 - nI 1) := by
    unfold backC
    rw [cpS_out (by omega), us_s]
  have same : ∀ r, r < 6 → SEq g (9 + 6 * r) g' (9 + 6 * r) := by
    intro r hr
    have ee : ∀ b, b < 6 → g' (9 + 6 * r + b) = g (9 + 6 * r + b) := fun b hb => er _ (by omega) (by omega)
    refine ⟨?_, fun i hi => ?_, fun i hi => ?_, fun i hi => ?_, fun i hi => ?_, fun i hi => ?_⟩
    · have := ee 0 (by decide)
      rw [Nat.add_zero] at this
      rw [this]
    · rw [ee 1 (by decide)]
    · rw [ee 2 (by decide)]
    · rw [ee 3 (by decide)]
    · rw [ee 4 (by decide)]
    · rw [ee 5 (by decide)]
  refine ⟨⟨k - 1, (x + 5) % 6, by omega, by omega, ?_, ?_, ?_, fun j hj => ?_⟩, ?_⟩
  · rw [e7, b7, pk_un (by decide), pk_us, h1, tn_nI' (by omega)]
  · rw [e7, b7, pk_us, h2, nI_prd hk1]
  · rw [e51, h3, nI_prd hk1]
  · have old := h4 (j + 1) (by omega)
    have er' : ((x + 5) % 6 + 5 - j) % 6 = (x + 5 - (j + 1)) % 6 := by omega
    rw [er']
    refine old.tr (same _ (Nat.mod_lt _ (by decide))) fun i hi => ?_
    rw [e53]
    congr 1
    omega
  · have old := h4 0 (by omega)
    rw [Nat.sub_zero, Nat.sub_zero] at old
    have bs : ∀ a, 1 ≤ a → a ≤ 6 → g' a = cpS (us g 7 (upd (upd (g 7) 1 (nI ((x + 5) % 6))) 2 (g 7 2 - nI 1))) (9 + 6 * ((x + 5) % 6)) 1 a := by
      intro a h1' h2'
      rw [es a h1' h2']
      unfold backC
      rw [h1, tn_nI' (by omega)]
    have hr : (x + 5) % 6 < 6 := Nat.mod_lt _ (by decide)
    generalize (x + 5) % 6 = r at old bs hr
    obtain ⟨c0, c1, c2, c3, c4, c5⟩ := cpS_eq (us g 7 (upd (upd (g 7) 1 (nI r)) 2 (g 7 2 - nI 1))) (9 + 6 * r) 1
    have gg : ∀ b, b < 6 → us g 7 (upd (upd (g 7) 1 (nI r)) 2 (g 7 2 - nI 1)) (9 + 6 * r + b) = g (9 + 6 * r + b) := fun b hb => us_n _ (by omega)
    refine old.tr ⟨?_, fun i hi => ?_, fun i hi => ?_, fun i hi => ?_, fun i hi => ?_, fun i hi => ?_⟩ fun i hi => ?_
    · have := gg 0 (by decide)
      rw [Nat.add_zero] at this
      rw [bs 1 (by decide) (by decide), ← c0, this]
    · rw [bs 2 (by decide) (by decide), ← gg 1 (by decide)]; exact c1 i hi
    · rw [bs 3 (by decide) (by decide), ← gg 2 (by decide)]; exact c2 i hi
    · rw [bs 4 (by decide) (by decide), ← gg 3 (by decide)]; exact c3 i hi
    · rw [bs 5 (by decide) (by decide), ← gg 4 (by decide)]; exact c4 i hi
    · rw [bs 6 (by decide) (by decide), ← gg 5 (by decide)]; exact c5 i hi
    · rw [e52, h3, tn_nI' (by omega)]
      unfold copF
      rw [if_pos (by omega)]
      rfl
def TaOK (g : Sg) : Prop := (∀ b, b < 625 → g 46 b = nI (seenN (rwM g) (btw (tn (g 52 128)) (nmM g)) b)) ∧ ∀ n, n < 5 ^ tn (g 52 128) → g 47 n = nI (brN (tn (g 52 128)) (rwM g) (nmM g) n)
def MeOK (g : Sg) : Prop := ∀ w, isI w 0 2 = true → mdV g w = mmV g w
abbrev Inv (g : Sg) : Prop := (SRq g 1 (g 52)) ∧ (Hi g) ∧ (¬ g 0 4 = 0 → TaOK g) ∧ (¬ g 0 5 = 0 → MeOK g)
theorem Inv.sr {g : Sg} (h : Inv g) : SRq g 1 (g 52) := h.1
theorem Inv.hi {g : Sg} (h : Inv g) : Hi g := h.2.1
theorem Inv.ta {g : Sg} (h : Inv g) : ¬ g 0 4 = 0 → TaOK g := h.2.2.1
theorem Inv.me {g : Sg} (h : Inv g) : ¬ g 0 5 = 0 → MeOK g := h.2.2.2
