/-! MENDING: the lightest cover is the first least set -/
theorem msk_tb {n : Nat} (hn : n < 65536) : mskN (fun s => Nat.testBit n s) 16 = n := by
  apply Nat.eq_of_testBit_eq
  intro i
  rw [msk_bit]
  by_cases h : i < 16
  · simp [h]
  · rw [tb_big hn (by omega)]
    simp
theorem bf_spec {ok : Nat → Bool} {cost : Nat → Int32} {c : Nat → Nat} (hc : ∀ n, n < 65536 → ok n = true → cost n = nI (c n)) (hb : ∀ n, c n < 2 ^ 31) : ∀ N, N ≤ 65536 → (bfP ok cost N = (-1, 0) ∧ ∀ n, n < N → ok n = false) ∨ ∃ m, m < N ∧ ok m = true ∧ bfP ok cost N = (nI m, nI (c m)) ∧ ∀ n, n < N → ok n = true → c m < c n ∨ (c m = c n ∧ m ≤ n)
  | 0, _ => Or.inl ⟨rfl, fun n hn => absurd hn (by omega)⟩
  | N + 1, hN => by
    have ih := bf_spec hc hb N (by omega)
    have e : bfP ok cost (N + 1) = if (ok N && (decide ((bfP ok cost N).1 = -1) || decide (cost N < (bfP ok cost N).2))) = true then (nI N, cost N) else bfP ok cost N := rfl
    rw [e]
    have lt1 : ∀ {n : Nat}, n < N + 1 → n < N ∨ n = N := fun h => by omega
    cases hk : ok N with
    | false =>
      rw [if_neg (by simp)]
      rcases ih with ⟨h1, h2⟩ | ⟨m, h1, h2, h3, h4⟩
      · refine Or.inl ⟨h1, fun n hn => ?_⟩
        rcases lt1 hn with q | q
        · exact h2 n q
        · rw [q]; exact hk
      · refine Or.inr ⟨m, by omega, h2, h3, fun n hn hok => ?_⟩
        rcases lt1 hn with q | q
        · exact h4 n q hok
        · rw [q, hk] at hok; cases hok
    | true =>
      have hcN := hc N (by omega) hk
      rcases ih with ⟨h1, h2⟩ | ⟨m, h1, h2, h3, h4⟩
      · rw [h1, if_pos (by simp)]
        refine Or.inr ⟨N, by omega, hk, by rw [hcN], fun n hn hok => ?_⟩
        rcases lt1 hn with q | q
        · rw [h2 n q] at hok; cases hok
        · rw [q]; exact Or.inr ⟨rfl, Nat.le_refl _⟩
      · have nn : ¬ nI m = -1 := fun q => by
          have : (nI m).toInt = (-1 : Int32).toInt := by rw [q]
          rw [nI_toInt (by omega)] at this
          have z : (-1 : Int32).toInt = -1 := by decide
          rw [z] at this
          omega
        rw [h3, hcN]
        simp only [nn, decide_false, Bool.true_and, Bool.false_or, decide_eq_true_eq]
        have hlt := nI_ltI (hb N) (hb m)
        by_cases q : c N < c m
        · rw [if_pos (hlt.mpr q)]
          refine Or.inr ⟨N, by omega, hk, rfl, fun n hn hok => ?_⟩
          rcases lt1 hn with z | z
          · have := h4 n z hok
            omega
          · rw [z]; exact Or.inr ⟨rfl, Nat.le_refl _⟩
        · rw [if_neg (fun z => q (hlt.mp z))]
          refine Or.inr ⟨m, by omega, h2, rfl, fun n hn hok => ?_⟩
          rcases lt1 hn with z | z
          · exact h4 n z hok
          · rw [z]; omega
theorem mend_eq {B : Nat → Nat → Bool} {rw : Nat → Bool} {pr wI fI f0 : Nat → Int32} {p : Nat → Nat} (hB : ∀ s t, s < t → t < 16 → B s t = true → rw s = true ∧ rw t = true) (hp : ∀ s, s < 16 → rw s = true → pr s = nI (p s) ∧ p s ≤ 99) (hw : ∀ s, s < 16 → wI s = if rw s = true then pr s * nI 65536 + nI (2 ^ s) else 0) (hf : ∀ s, s < 16 → fI s = foF B f0 16 0 s) : ∃ m c, m < 65536 ∧ c < 16 * 100 ∧ lcI fI wI 17 65535 = nI (c * 65536 + m) ∧ bfP (fun n => decide (n &&& (65535 ^^^ mskN rw 16) = 0) && gdB fI n 16) (fun n => wsI pr n 16) 65536 = (nI m, nI c) := by
  let f : Nat → Nat := fun s => mskN (FP B 16 0 s) 16
  let p' : Nat → Nat := fun s => if rw s = true then p s else 0
  let w : Nat → Nat := fun s => if rw s = true then p s * 65536 + 2 ^ s else 0
  have hfb : ∀ s t, s < 16 → t < 16 → Nat.testBit (f s) t = (!decide (s = t) && B (min s t) (max s t)) := by
    intro s t hs ht
    show Nat.testBit (mskN (FP B 16 0 s) 16) t = _
    rw [msk_bit, decide_eq_true ht]
    unfold FP
    simp [show min s t < 16 by omega]
  have hfI : ∀ s, s < 16 → fI s = nI (f s) := by
    intro s hs
    rw [hf s hs]
    unfold foF
    rw [if_pos hs]
  have hfl : ∀ s, s < 16 → f s < 65536 := fun s _ => msk_lt _ 16
  have hwI : ∀ s, s < 16 → wI s = nI (w s) := by
    intro s hs
    rw [hw s hs]
    show _ = nI (if rw s = true then p s * 65536 + 2 ^ s else 0)
    by_cases h : rw s = true
    · rw [if_pos h, if_pos h, (hp s hs h).1, pk_mul, nI_add]
    · rw [if_neg h, if_neg h]; rfl
  have p2 : ∀ s, s < 16 → 2 ^ s ≤ 32768 := by decide
  have hwle : ∀ s, s < 16 → w s ≤ 6600000 := by
    intro s hs
    show (if rw s = true then p s * 65536 + 2 ^ s else 0) ≤ 6600000
    have := p2 s hs
    split
    · rename_i h
      have := (hp s hs h).2
      omega
    · omega
  have tot : sm w 16 < 2 ^ 31 := by
    have := sm_le (f := w) (b := 6600000) (n := 16) hwle
    omega
  have sy : ∀ s t, s < 16 → t < 16 → Nat.testBit (f s) t = Nat.testBit (f t) s := by
    intro s t hs ht
    rw [hfb s t hs ht, hfb t s ht hs, Nat.min_comm, Nat.max_comm]
    congr 2
    by_cases q : s = t
    · simp [q]
    · simp [q, show ¬ t = s from fun z => q z.symm]
  have ir : ∀ s, s < 16 → Nat.testBit (f s) s = false := by
    intro s hs
    rw [hfb s s hs hs]
    simp
  have ero : ∀ s t, s < 16 → t < 16 → Nat.testBit (f s) t = true → rw s = true := by
    intro s t hs ht h
    rw [hfb s t hs ht, Bool.and_eq_true] at h
    have ne : ¬ s = t := by simpa using h.1
    rcases Nat.lt_or_ge s t with q | q
    · rw [Nat.min_eq_left (by omega), Nat.max_eq_right (by omega)] at h
      exact (hB s t q ht h.2).1
    · rw [Nat.min_eq_right (by omega), Nat.max_eq_left (by omega)] at h
      exact (hB t s (by omega) hs h.2).2
  have pc : popc 65535 < 17 := by
    have := popc_le 65535
    omega
  obtain ⟨r, lc, ⟨P, cP, iP, wP⟩, lo⟩ := lc_spec hfI hfl hwI sy ir tot 17 65535 (by decide) pc
  -- sets as masks
  let cN : Nat → Nat := fun n => sm (fun s => if Nat.testBit n s = true then p' s else 0) 16
  have hp' : ∀ s, s < 16 → p' s ≤ 99 := by
    intro s hs
    show (if rw s = true then p s else 0) ≤ 99
    split
    · rename_i h
      exact (hp s hs h).2
    · omega
  have cNb : ∀ n, cN n ≤ 16 * 99 := by
    intro n
    refine sm_le fun s hs => ?_
    have := hp' s hs
    split <;> omega
  have hcost : ∀ n, n < 65536 → (decide (n &&& (65535 ^^^ mskN rw 16) = 0) && gdB fI n 16) = true → wsI pr n 16 = nI (cN n) := by
    intro n hn hok
    rw [Bool.and_eq_true, decide_eq_true_eq, subs_iff hn] at hok
    refine wsI_eq 16 fun s hs hb => ?_
    have := hok.1 s hs hb
    rw [msk_bit, Bool.and_eq_true] at this
    rw [(hp s hs this.2).1]
    show nI (p s) = nI (if rw s = true then p s else 0)
    rw [if_pos this.2]
  have hW : ∀ n, n < 65536 → (∀ s, s < 16 → Nat.testBit n s = true → rw s = true) → wS w (fun s => Nat.testBit n s) = cN n * 65536 + n := by
    intro n hn hsub
    have e : wS w (fun s => Nat.testBit n s) = sm (fun s => 65536 * (if Nat.testBit n s = true then p' s else 0) + (if Nat.testBit n s = true then 2 ^ s else 0)) 16 := by
      refine sm_congr fun s hs => ?_
      by_cases q : Nat.testBit n s = true
      · rw [if_pos q, if_pos q, if_pos q]
        show (if rw s = true then p s * 65536 + 2 ^ s else 0) = 65536 * (if rw s = true then p s else 0) + 2 ^ s
        rw [if_pos (hsub s hs q), if_pos (hsub s hs q)]
        omega
      · rw [if_neg q, if_neg q, if_neg q]
    rw [e, ← sm_add, sm_mul]
    have := msk_tb hn
    unfold mskN at this
    rw [this]
    show 65536 * cN n + n = _
    omega
  have okiff : ∀ n, n < 65536 → ((decide (n &&& (65535 ^^^ mskN rw 16) = 0) && gdB fI n 16) = true ↔ (∀ s, s < 16 → Nat.testBit n s = true → rw s = true) ∧ CovP f 65535 (fun s => Nat.testBit n s)) := by
    intro n hn
    rw [Bool.and_eq_true, decide_eq_true_eq, subs_iff hn]
    refine and_congr ?_ ?_
    · refine ⟨fun h s hs hb => ?_, fun h s hs hb => ?_⟩
      · have := h s hs hb
        rw [msk_bit, Bool.and_eq_true] at this
        exact this.2
      · rw [msk_bit, h s hs hb, decide_eq_true hs]; rfl
    · unfold gdB
      rw [al_iff]
      have tf : ∀ s, s < 16 → tn (fI s) = f s := fun s hs => by rw [hfI s hs, tn_nI' (by have := hfl s hs; omega)]
      refine ⟨fun h s t hs ht _ _ est => ?_, fun h s hs => ?_⟩
      · have := h s hs
        rw [bit_tb, tf s hs, Bool.or_eq_true, decide_eq_true_eq, subs_iff (hfl s hs)] at this
        rcases this with q | q
        · exact Or.inl q
        · exact Or.inr (q t ht est)
      · rw [bit_tb, tf s hs, Bool.or_eq_true, decide_eq_true_eq, subs_iff (hfl s hs)]
        by_cases q : Nat.testBit n s = true
        · exact Or.inl q
        · refine Or.inr fun t ht est => ?_
          rcases h s t hs ht (by rw [tb_65535, decide_eq_true hs]) (by rw [tb_65535, decide_eq_true ht]) est with z | z
          · exact absurd z q
          · exact z
  have nb : ∀ s, s < 16 → Nat.testBit (mskN P 16) s = P s := fun s hs => by rw [msk_bit, decide_eq_true hs, Bool.true_and]
  have nl : mskN P 16 < 65536 := msk_lt P 16
  generalize mskN P 16 = n0 at nb nl
  have n0row : ∀ s, s < 16 → Nat.testBit n0 s = true → rw s = true := by
    intro s hs hb
    rw [nb s hs] at hb
    obtain ⟨_, _, t, ht, est⟩ := iP s hb
    exact ero s t hs ht est
  have n0ok := (okiff n0 nl).mpr ⟨n0row, fun s t hs ht bs bt est => by
    rcases cP s t hs ht bs bt est with z | z
    · exact Or.inl (by dsimp only; rw [nb s hs]; exact z)
    · exact Or.inr (by dsimp only; rw [nb t ht]; exact z)⟩
  have rW : r = cN n0 * 65536 + n0 := by
    rw [← wP, ← hW n0 nl n0row]
    exact wS_congr fun s hs => (nb s hs).symm
  rcases bf_spec (ok := fun n => decide (n &&& (65535 ^^^ mskN rw 16) = 0) && gdB fI n 16) (cost := fun n => wsI pr n 16) (c := cN) hcost (fun n => by have := cNb n; omega) 65536 (Nat.le_refl _) with ⟨_, h2⟩ | ⟨m, h1, h2, h3, h4⟩
  · have := h2 n0 nl
    rw [n0ok] at this
    cases this
  · have hm := (okiff m h1).mp h2
    have lw := lo _ hm.2
    rw [hW m h1 hm.1, rW] at lw
    have lx := h4 n0 nl n0ok
    have e1 : cN m = cN n0 := by omega
    have e2 : m = n0 := by omega
    have := cNb m
    refine ⟨m, cN m, h1, by omega, ?_, h3⟩
    rw [lc, rW, e1, e2]
