/-! LAWS FOUND, KEYS, WHAT SETTLES -/
theorem bfalse_of {b : Bool} (h : ¬ b = true) : b = false := by cases b <;> simp_all
theorem bool_iff {a b : Bool} (h : a = true ↔ b = true) : a = b := by cases a <;> cases b <;> simp_all
theorem sm_mono {f h : Nat → Nat} : ∀ {n : Nat}, (∀ i, i < n → f i ≤ h i) → sm f n ≤ sm h n
  | 0, _ => Nat.le_refl _
  | n + 1, k => by
    have := sm_mono (n := n) (fun i hi => k i (by omega))
    have := k n (by omega)
    simp only [sm]
    omega
theorem sm_zero {f : Nat → Nat} : ∀ {n : Nat}, sm f n = 0 ↔ ∀ i, i < n → f i = 0
  | 0 => by simp [sm]
  | n + 1 => by
    simp only [sm, Nat.add_eq_zero_iff, sm_zero (n := n)]
    refine ⟨fun h i hi => ?_, fun h => ⟨fun i hi => h i (by omega), h n (by omega)⟩⟩
    rcases Nat.lt_or_ge i n with q | q
    · exact h.1 i q
    · rw [show i = n by omega]; exact h.2
theorem ct1_0 {p : Bool} : ct1 p = 0 ↔ p = false := by cases p <;> simp [ct1]
theorem brN_le (C : Nat) (rw : Nat → Bool) (nm : Nat → Nat → Int32) (n : Nat) : brN C rw nm n ≤ 240 := by
  have : brN C rw nm n ≤ 16 * (15 * 1) := by
    refine sm_le fun s _ => ?_
    have := sm_le (f := fun i => ct1 (brB C rw nm n s (s + 1 + i))) (b := 1) (n := 15 - s) (fun i _ => ct1_le _)
    omega
  omega
theorem soD_mono {a b x : Nat} (h : saD a b = true) (h2 : soD a x = true) : soD b x = true := by
  unfold saD at h
  unfold soD at h2 ⊢
  simp only [Bool.or_eq_true, Bool.and_eq_true, decide_eq_true_eq] at h
  rcases h with (h | h) | ⟨h, h'⟩
  · subst h; simp
  · subst h; exact h2
  · subst h
    rw [if_neg (by omega)] at h2
    simp at h2 ⊢
    omega
theorem so_mono {C : Nat} (hC : C < 5) {w k : Nat} {nm : Nat → Nat → Int32} {s t : Nat} (h : saB w k = true) (h2 : soB C nm w s t = true) : soB C nm k s t = true :=
  al_iff.mpr fun c hc => soD_mono (al_iff.mp h c (by omega)) (al_iff.mp h2 c hc)
theorem brN_mono {C : Nat} (hC : C < 5) {w k : Nat} (rw : Nat → Bool) (nm : Nat → Nat → Int32) (h : saB w k = true) : brN C rw nm w ≤ brN C rw nm k := by
  unfold brN
  refine sm_mono fun s _ => sm_mono fun i _ => ?_
  unfold brB
  cases hr : (rw s && rw (s + 1 + i)) with
  | false => simp [ct1]
  | true =>
    simp only [Bool.true_and]
    cases h1 : soB C nm w s (s + 1 + i) with
    | true => rw [so_mono hC h h1]; simp [ct1]
    | false =>
      cases h2 : soB C nm w (s + 1 + i) s with
      | true => rw [so_mono hC h h2]; simp [ct1]
      | false => simp [ct1]
theorem wid_D : ∀ n, n < 625 → ∀ c, c < 4 → ∀ j, j < 4 → D (wid n c) j = if j = c then (if 2 < D n c then 2 else 0) else D n j := by decide +kernel
theorem wid_le (n c : Nat) : wid n c ≤ n := Nat.sub_le _ _
theorem sa_wid {n c : Nat} (hn : n < 625) (hc : c < 4) : saB n (wid n c) = true := by
  refine al_iff.mpr fun j hj => ?_
  rw [wid_D n hn c hc j hj]
  unfold saD
  by_cases q : j = c
  · subst q
    rw [if_pos rfl]
    by_cases q2 : 2 < D n j <;> simp [q2]
  · simp [q]
theorem sa_next {n k : Nat} (hn : n < 625) (hk : k < 625) (hne : ¬ k = n) (hk0 : ¬ k = 0) (h : saB n k = true) : ∃ c, c < 4 ∧ ¬ wid n c = n ∧ ¬ wid n c = 0 ∧ saB (wid n c) k = true := by
  have : ∃ c, c < 4 ∧ ¬ D k c = D n c := by
    refine Classical.byContradiction fun q => hne (D_ext hk hn fun c hc => ?_)
    exact Classical.byContradiction fun q2 => q ⟨c, hc, q2⟩
  obtain ⟨c, hc, hd⟩ := this
  have hs := al_iff.mp h c hc
  unfold saD at hs
  simp only [Bool.or_eq_true, Bool.and_eq_true, decide_eq_true_eq] at hs
  have hw := wid_D n hn c hc c hc
  rw [if_pos rfl] at hw
  have key : saB (wid n c) k = true := by
    refine al_iff.mpr fun j hj => ?_
    rw [wid_D n hn c hc j hj]
    by_cases q : j = c
    · subst q
      rw [if_pos rfl]
      unfold saD
      by_cases q2 : 2 < D n j
      · rw [if_pos q2]
        rcases hs with (z | z) | z
        · simp [z]
        · exact absurd z.symm hd
        · simp [z.1]
      · rw [if_neg q2]
        rcases hs with (z | z) | z
        · simp [z]
        · exact absurd z.symm hd
        · exact absurd z.2 q2
    · rw [if_neg q]
      exact al_iff.mp h j hj
  refine ⟨c, hc, fun e => ?_, fun e => ?_, key⟩
  · rw [e] at hw
    by_cases q2 : 2 < D n c
    · rw [if_pos q2] at hw
      omega
    · rw [if_neg q2] at hw
      omega
  · refine hk0 (D_ext hk (by decide) fun j hj => ?_)
    have := al_iff.mp key j hj
    rw [e] at this
    unfold saD at this
    have z : D 0 j = 0 := by simp [D]
    rw [z] at this ⊢
    simp at this
    omega
theorem tun_0 : tun 0 = 0 := by decide
theorem fnd_ok {C : Nat} (hC : C < 5) {rw : Nat → Bool} {nm : Nat → Nat → Int32} {f ne : Nat → Int32} {b : Int32} (m : Int32) (hf : ∀ x, x < 5 ^ C → f x = nI (brN C rw nm x)) (hne : ∀ x, 1 ≤ x → x < 5 ^ C → ne x = b2i (decide (nI (brN C rw nm x) ≤ b))) {n : Nat} (h1 : 1 ≤ n) (hn : n < 5 ^ C) : fnd f n b m = okM ne (5 ^ C) n m := by
  have h625 := p5_le hC
  unfold fnd okM
  rw [hf n hn, hne n h1 hn]
  have e1 : (!decide (b2i (decide (nI (brN C rw nm n) ≤ b)) = 0)) = decide (nI (brN C rw nm n) ≤ b) := by
    by_cases q : nI (brN C rw nm n) ≤ b <;> simp [q, b2i]
  have e2 : decide (min n (tun n) = n) = decide (n ≤ tun n) := by
    congr 1
    exact propext ⟨fun q => by omega, fun q => by omega⟩
  rw [e1, e2]
  by_cases hle : n ≤ tun n
  · have e3 : (!hwn f n b) = al (fun i => aloB ne n (1 + i)) (5 ^ C - 1) := by
      refine bool_iff ?_
      unfold hwn
      rw [Bool.not_not, al_iff, al_iff]
      refine ⟨fun h i hi => ?_, fun h c hc => ?_⟩
      · refine Classical.byContradiction fun q => ?_
        have q' := bfalse_of q
        unfold aloB at q'
        simp only [Bool.or_eq_false_iff, decide_eq_false_iff_not, Bool.not_eq_false'] at q'
        obtain ⟨⟨⟨a1, a2⟩, a3⟩, a4⟩ := q'
        generalize hk : 1 + i = k at *
        have hk1 : 1 ≤ k := by omega
        have hkN : k < 5 ^ C := by omega
        rw [hne k hk1 hkN, b2i_0] at a1
        have nr : nI (brN C rw nm k) ≤ b := by simpa using a1
        have : ∃ k', k' < 5 ^ C ∧ ¬ k' = n ∧ ¬ k' = 0 ∧ saB n k' = true ∧ brN C rw nm k' = brN C rw nm k := by
          unfold isd at a4
          rw [Bool.or_eq_true] at a4
          rcases a4 with z | z
          · exact ⟨k, hkN, a2, by omega, z, rfl⟩
          · refine ⟨tun k, tun_ltC k (by omega) C hC hkN, fun e => a3 ?_, fun e => ?_, z, brN_tun hC hkN rw nm⟩
            · rw [← e, tun_tun (by omega)]
            · have := tun_tun (n := k) (by omega)
              rw [e, tun_0] at this
              omega
        obtain ⟨k', b1, b2, b3, b4, b5⟩ := this
        obtain ⟨c, hc, c1, c2, c3⟩ := sa_next (by omega) (by omega) b2 b3 b4
        have hh := h c hc
        have hm := brN_mono hC rw nm c3
        have l1 := brN_le C rw nm k'
        have wl := wid_le n c
        have hfw : f (wid n c) ≤ b := by
          rw [hf _ (by omega)]
          refine Int32.le_trans ?_ nr
          rw [← b5]
          exact (nI_leI (by omega) (by omega)).mpr hm
        simp [c1, c2, hfw] at hh
      · refine Classical.byContradiction fun q => ?_
        have q' := bfalse_of q
        simp only [Bool.not_eq_false', Bool.and_eq_true, Bool.not_eq_true', decide_eq_false_iff_not, decide_eq_true_eq] at q'
        obtain ⟨⟨c1, c2⟩, c3⟩ := q'
        have wl := wid_le n c
        have hh := h (wid n c - 1) (by omega)
        rw [show 1 + (wid n c - 1) = wid n c by omega] at hh
        rw [hf _ (by omega)] at c3
        unfold aloB at hh
        rw [hne _ (by omega) (by omega)] at hh
        have e4 : isd n (wid n c) = true := by
          unfold isd
          rw [sa_wid (by omega) hc]
          rfl
        rw [e4] at hh
        simp [c1, c3, b2i, show ¬ wid n c = tun n by omega] at hh
    rw [e3]
    simp only [Bool.and_assoc]
    congr 1
    rw [Bool.and_left_comm]
  · simp [hle]
theorem fin_snoc (P : Nat → Bool) : ∀ n t a, fin P (n + 1) t a = match fin P n t a with
    | .inl x => .inl x
    | .inr a' => if P (t + n) = true then (if a' = 0 then .inl (t + n) else .inr (a' - 1)) else .inr a'
  | 0, t, a => by
    simp only [fin, Nat.add_zero]
  | n + 1, t, a => by
    have ih := fin_snoc P n (t + 1)
    have e : ∀ a, fin P (n + 1 + 1) t a = if P t = true then (if a = 0 then .inl t else fin P (n + 1) (t + 1) (a - 1)) else fin P (n + 1) (t + 1) a := fun _ => rfl
    have e' : ∀ a, fin P (n + 1) t a = if P t = true then (if a = 0 then .inl t else fin P n (t + 1) (a - 1)) else fin P n (t + 1) a := fun _ => rfl
    rw [e, e', ih, ih, show t + 1 + n = t + (n + 1) by omega]
    by_cases h1 : P t = true
    · by_cases h2 : a = 0
      · simp [h1, h2]
      · simp [h1, h2]
    · simp [h1]
theorem fin_congr {P Q : Nat → Bool} : ∀ {n t a : Nat}, (∀ x, t ≤ x → x < t + n → P x = Q x) → fin P n t a = fin Q n t a
  | 0, _, _, _ => rfl
  | n + 1, t, a, h => by
    have h0 := h t (by omega) (by omega)
    have e1 := fin_congr (P := P) (Q := Q) (n := n) (t := t + 1) (a := a - 1) (fun x h1 h2 => h x (by omega) (by omega))
    have e2 := fin_congr (P := P) (Q := Q) (n := n) (t := t + 1) (a := a) (fun x h1 h2 => h x (by omega) (by omega))
    simp only [fin]
    rw [h0, e1, e2]
theorem fin_fd (ne : Nat → Int32) (N : Nat) (m : Int32) (f : Nat → Int32) (a : Nat) : ∀ i, (∃ x, fin (fun n => okM ne N n m) i 1 a = .inl x ∧ a < fdN ne N m i ∧ fdF ne N m f i a = nI x) ∨ (fdN ne N m i ≤ a ∧ fin (fun n => okM ne N n m) i 1 a = .inr (a - fdN ne N m i))
  | 0 => Or.inr ⟨Nat.zero_le _, rfl⟩
  | i + 1 => by
    have e1 : fdN ne N m (i + 1) = fdN ne N m i + ct1 (okM ne N (1 + i) m) := rfl
    have e2 : fdF ne N m f (i + 1) = if okM ne N (1 + i) m = true then upd (fdF ne N m f i) (fdN ne N m i) (nI (1 + i)) else fdF ne N m f i := rfl
    rw [fin_snoc, e1, e2]
    rcases fin_fd ne N m f a i with ⟨x, h1, h2, h3⟩ | ⟨h1, h2⟩
    · refine Or.inl ⟨x, by rw [h1], by omega, ?_⟩
      by_cases q : okM ne N (1 + i) m = true
      · rw [if_pos q, pk_un (by omega), h3]
      · rw [if_neg q, h3]
    · rw [h2]
      by_cases q : okM ne N (1 + i) m = true
      · by_cases q2 : a = fdN ne N m i
        · refine Or.inl ⟨1 + i, ?_, ?_, ?_⟩
          · simp [q, q2]
          · rw [q, ct1_t]; omega
          · rw [if_pos q, q2, pk_us]
        · refine Or.inr ⟨?_, ?_⟩
          · rw [q, ct1_t]; omega
          · have : ¬ a - fdN ne N m i = 0 := by omega
            simp only [q, if_true, this, if_false, ct1_t]
            congr 1
      · refine Or.inr ⟨?_, ?_⟩
        · rw [bfalse_of q, ct1_f]; exact h1
        · simp [q, ct1]
-- sets
theorem alk_D : ∀ n, n < 16 → ∀ c, c < 4 → D (alk n) c = if bit n c = true then 1 else 0 := by decide +kernel
theorem alk_ltC : ∀ n, n < 16 → ∀ C, C < 5 → n < 2 ^ C → alk n < 5 ^ C := by decide +kernel
theorem wd1_sym (a b : Int32) : (wd b a = 1) ↔ (wd a b = 1) := by
  rw [wd_sw]
  have := wd_r a b
  generalize wd a b = w at *
  unfold sw
  repeat' split
  all_goals omega
theorem ali_so {C n : Nat} (hC : C < 5) (hn : n < 16) (nm : Nat → Nat → Int32) (s t : Nat) : soB C nm (alk n) s t = ali C nm n s t := by
  unfold soB ali
  refine al_congr fun c hc => ?_
  rw [alk_D n hn c (by omega)]
  cases bit n c with
  | true => simp [soD, eq_comm]
  | false => simp [soD]
theorem ali_sym (C n : Nat) (nm : Nat → Nat → Int32) (s t : Nat) : ali C nm n t s = ali C nm n s t := by
  unfold ali
  refine al_congr fun c _ => ?_
  have := wd1_sym (nm s c) (nm t c)
  simp [this]
theorem brN_0 {C n : Nat} {rw : Nat → Bool} {nm : Nat → Nat → Int32} : brN C rw nm n = 0 ↔ ∀ s, s < 16 → ∀ t, s < t → t < 16 → brB C rw nm n s t = false := by
  unfold brN
  rw [sm_zero]
  refine ⟨fun h s hs t h1 h2 => ?_, fun h s hs => sm_zero.mpr fun i hi => ct1_0.mpr (h s hs _ (by omega) (by omega))⟩
  have := ct1_0.mp (sm_zero.mp (h s hs) (t - s - 1) (by omega))
  rwa [show s + 1 + (t - s - 1) = t by omega] at this
theorem keyB_iff {C n : Nat} {rw : Nat → Bool} {nm : Nat → Nat → Int32} : keyB C rw nm n = true ↔ ∀ s, s < 16 → ∀ t, s < t → t < 16 → (rw s && rw t && ali C nm n s t) = false := by
  unfold keyB
  rw [al_iff]
  refine ⟨fun h s hs t h1 h2 => ?_, fun h s hs => al_iff.mpr fun i hi => ?_⟩
  · have := al_iff.mp (h s hs) (t - s - 1) (by omega)
    rw [show s + 1 + (t - s - 1) = t by omega] at this
    revert this
    cases rw s <;> cases rw t <;> cases ali C nm n s t <;> simp
  · rw [h s hs (s + 1 + i) (by omega) (by omega)]
    rfl
theorem key_br {C n : Nat} (hC : C < 5) (hn : n < 16) (rw : Nat → Bool) (nm : Nat → Nat → Int32) : decide (nI (brN C rw nm (alk n)) = 0) = keyB C rw nm n := by
  refine bool_iff ?_
  have := brN_le C rw nm (alk n)
  rw [decide_eq_true_eq, nI_z (by omega), brN_0, keyB_iff]
  have e : ∀ s t, brB C rw nm (alk n) s t = (rw s && rw t && ali C nm n s t) := by
    intro s t
    unfold brB
    rw [ali_so hC hn, ali_so hC hn, ali_sym C n nm s t, Bool.or_self]
  simp only [e]
theorem K1 : ∀ n, n < 16 → ∀ p, p < n → p &&& (15 - n) = 0 → al (fun c => !(bit n c && decide (p &&& (15 - (n - 2 ^ c)) = 0))) 4 = false := by decide +kernel
theorem K2 : ∀ n, n < 16 → ∀ c, c < 4 → n / 2 ^ c % 2 = 1 → n - 2 ^ c < n ∧ (n - 2 ^ c) &&& (15 - n) = 0 := by decide +kernel
theorem K3 : ∀ p, p < 16 → ∀ q, q < 16 → p &&& (15 - q) = 0 → ∀ c, c < 4 → bit p c = true → bit q c = true := by decide +kernel
theorem key_mono {C p q : Nat} (hC : C < 5) {rw : Nat → Bool} {nm : Nat → Nat → Int32} (hp : p < 16) (hq : q < 16) (h : p &&& (15 - q) = 0) (k : keyB C rw nm p = true) : keyB C rw nm q = true := by
  rw [keyB_iff] at k ⊢
  intro s hs t h1 h2
  have hk := k s hs t h1 h2
  cases hr : (rw s && rw t) with
  | false => rfl
  | true =>
    rw [hr] at hk
    rw [Bool.true_and] at hk ⊢
    cases ha : ali C nm q s t with
    | false => rfl
    | true =>
      refine absurd ?_ (show ¬ ali C nm p s t = true by rw [hk]; decide)
      refine al_iff.mpr fun c hc => ?_
      have := al_iff.mp ha c hc
      have k3 := K3 p hp q hq h c (by omega)
      cases hb : bit p c with
      | false => rfl
      | true =>
        rw [k3 hb] at this
        exact this
theorem lk_eq {C n : Nat} (hC : C < 5) (hn : n < 2 ^ C) {rw : Nat → Bool} {nm : Nat → Nat → Int32} {f : Nat → Int32} (hf : ∀ x, x < 5 ^ C → f x = nI (brN C rw nm x)) : lky f n = lkB C rw nm n := by
  have h16 : 2 ^ C ≤ 16 := by
    have : 2 ^ C ≤ 2 ^ 4 := Nat.pow_le_pow_right (by decide) (by omega)
    simpa using this
  unfold lky lkB
  have e : ∀ p, p ≤ n → decide (f (alk p) = 0) = keyB C rw nm p := fun p hp => by rw [hf _ (alk_ltC p (by omega) C hC (by omega)), key_br hC (by omega)]
  rw [e n (Nat.le_refl _)]
  congr 1
  refine bool_iff ?_
  rw [al_iff, al_iff]
  refine ⟨fun h p hp => ?_, fun h c hc => ?_⟩
  · refine Classical.byContradiction fun q => ?_
    have q' := bfalse_of q
    simp only [Bool.not_eq_false', Bool.and_eq_true, decide_eq_true_eq] at q'
    have k1 := K1 n (by omega) p hp q'.1
    have : ∃ c, c < 4 ∧ bit n c = true ∧ p &&& (15 - (n - 2 ^ c)) = 0 := by
      refine Classical.byContradiction fun z => ?_
      have : al (fun c => !(bit n c && decide (p &&& (15 - (n - 2 ^ c)) = 0))) 4 = true := by
        refine al_iff.mpr fun c hc => ?_
        refine Classical.byContradiction fun y => z ⟨c, hc, ?_⟩
        have y' := bfalse_of y
        simpa only [Bool.not_eq_false', Bool.and_eq_true, decide_eq_true_eq] using y'
      rw [k1] at this
      cases this
    obtain ⟨c, hc, c1, c2⟩ := this
    have hb : n / 2 ^ c % 2 = 1 := by simpa [bit] using c1
    have hh := h c hc
    have hsub : n - 2 ^ c ≤ n := Nat.sub_le _ _
    rw [e _ (Nat.sub_le _ _), key_mono hC (by omega) (by omega) c2 q'.2] at hh
    simp [hb] at hh
  · refine Classical.byContradiction fun q => ?_
    have q' := bfalse_of q
    simp only [Bool.not_eq_false', Bool.and_eq_true, decide_eq_true_eq] at q'
    obtain ⟨k1, k2⟩ := K2 n (by omega) c hc q'.1
    have hh := h _ k1
    have : keyB C rw nm (n - 2 ^ c) = true := by rw [← e _ (Nat.sub_le _ _), decide_eq_true_eq]; exact q'.2
    rw [this, k2] at hh
    simp at hh
theorem sett_bit (f : Nat → Int32) (n : Nat) : ∀ k i, Nat.testBit (sett f n k) i = (Nat.testBit n i || (decide (i < k) && decide (n / 2 ^ i % 2 = 0 ∧ f (alk n + 2 * 5 ^ i) = 0)))
  | 0, i => by simp [sett]
  | k + 1, i => by
    have ih := sett_bit f n k i
    simp only [sett]
    by_cases h : n / 2 ^ k % 2 = 0 ∧ f (alk n + 2 * 5 ^ k) = 0
    · rw [if_pos h, Nat.testBit_or, ih, Nat.testBit_two_pow]
      by_cases q : k = i
      · subst q
        simp [h]
      · by_cases q2 : i < k
        · simp [q, q2, show i < k + 1 by omega]
        · simp [q, q2, show ¬ i < k + 1 by omega]
    · rw [if_neg h, ih]
      by_cases q : k = i
      · subst q
        simp only [h]
        simp
      · by_cases q2 : i < k
        · simp [q2, show i < k + 1 by omega]
        · simp [q2, show ¬ i < k + 1 by omega]
theorem L2_D0 : ∀ n, n < 16 → ∀ c, c < 4 → ∀ j, j < 4 → (bit n c || decide (D (alk n + 2 * 5 ^ c) j = if j = c then 2 else D (alk n) j)) = true := by decide +kernel
theorem L2_lt : ∀ C, C < 5 → ∀ n, n < 2 ^ C → ∀ c, c < C → n / 2 ^ c % 2 = 0 → alk n + 2 * 5 ^ c < 5 ^ C := by decide +kernel
theorem so_L2 {C n c : Nat} (hC : C < 5) (hn : n < 16) (hc : c < C) (hb : bit n c = false) (nm : Nat → Nat → Int32) (s t : Nat) : soB C nm (alk n + 2 * 5 ^ c) s t = (ali C nm n s t && !decide (wd (nm s c) (nm t c) = 1)) := by
  have hd : ∀ j, j < 4 → D (alk n + 2 * 5 ^ c) j = if j = c then 2 else D (alk n) j := fun j hj => by
    have := L2_D0 n hn c (by omega) j hj
    rw [hb] at this
    simpa using this
  rw [← ali_so hC hn]
  unfold soB
  rw [al_pick hc, al_pick (p := fun c => soD (D (alk n) c) (wd (nm s c) (nm t c))) hc]
  have e0 : D (alk n) c = 0 := by rw [alk_D n hn c (by omega), hb]; rfl
  rw [hd c (by omega), e0, if_pos rfl]
  have e1 : soD 2 (wd (nm s c) (nm t c)) = !decide (wd (nm s c) (nm t c) = 1) := rfl
  have e2 : soD 0 (wd (nm s c) (nm t c)) = true := by simp [soD]
  rw [e1, e2, Bool.and_true]
  congr 1
  refine al_congr fun j hj => ?_
  by_cases q : j = c
  · simp [q]
  · rw [hd j (by omega)]
    simp [q]
theorem st_one {C n c : Nat} (hC : C < 5) (hn : n < 2 ^ C) (hc : c < C) {rw : Nat → Bool} {nm : Nat → Nat → Int32} {f : Nat → Int32} (hf : ∀ x, x < 5 ^ C → f x = nI (brN C rw nm x)) : stP rw C nm n 16 0 c = (Nat.testBit n c || decide (n / 2 ^ c % 2 = 0 ∧ f (alk n + 2 * 5 ^ c) = 0)) := by
  have h16 : 2 ^ C ≤ 16 := by
    have : 2 ^ C ≤ 2 ^ 4 := Nat.pow_le_pow_right (by decide) (by omega)
    simpa using this
  have tb : Nat.testBit n c = bit n c := by
    unfold bit
    rw [Nat.testBit_eq_decide_div_mod_eq]
  rw [tb]
  refine bool_iff ?_
  unfold stP
  rw [show al (fun t => stB rw C nm n 16 t c) 0 = true from rfl, Bool.and_true, al_iff]
  cases hb : bit n c with
  | true =>
    rw [Bool.true_or]
    refine ⟨fun _ => rfl, fun _ s hs => al_iff.mpr fun t ht => ?_⟩
    unfold stB
    cases ha : ali C nm n s t with
    | false => simp
    | true =>
      have := al_iff.mp ha c hc
      rw [hb] at this
      simp at this
      simp [this]
  | false =>
    have hm : n / 2 ^ c % 2 = 0 := by
      unfold bit at hb
      simp at hb
      omega
    have hlt := L2_lt C hC n hn c hc hm
    have hle := brN_le C rw nm (alk n + 2 * 5 ^ c)
    rw [Bool.false_or, decide_eq_true_eq, hf _ hlt, nI_z (by omega), brN_0]
    have e : ∀ s t, brB C rw nm (alk n + 2 * 5 ^ c) s t = (rw s && rw t && (ali C nm n s t && !decide (wd (nm s c) (nm t c) = 1))) := by
      intro s t
      unfold brB
      rw [so_L2 hC (by omega) hc hb, so_L2 hC (by omega) hc hb, ali_sym C n nm s t]
      have := wd1_sym (nm s c) (nm t c)
      simp [this]
    simp only [e]
    refine ⟨fun h => ⟨hm, fun s hs t h1 h2 => ?_⟩, fun h s hs => al_iff.mpr fun t ht => ?_⟩
    · have := al_iff.mp (h s hs) t h2
      unfold stB at this
      have ne : ¬ s = t := by omega
      revert this
      cases rw s <;> cases rw t <;> cases ali C nm n s t <;> simp [ne]
    · unfold stB
      rcases Nat.lt_trichotomy s t with q | q | q
      · have := h.2 s hs t q ht
        revert this
        cases rw s <;> cases rw t <;> cases ali C nm n s t <;> simp [show ¬ s = t by omega]
      · simp [q]
      · have := h.2 t ht s q hs
        rw [ali_sym C n nm s t] at this
        have w := wd1_sym (nm s c) (nm t c)
        rw [show decide (wd (nm t c) (nm s c) = 1) = decide (wd (nm s c) (nm t c) = 1) by simp [w]] at this
        revert this
        cases rw s <;> cases rw t <;> cases ali C nm n s t <;> simp [show ¬ s = t by omega]
theorem sett_eq {C n : Nat} (hC : C < 5) (hn : n < 2 ^ C) {rw : Nat → Bool} {nm : Nat → Nat → Int32} {f : Nat → Int32} (hf : ∀ x, x < 5 ^ C → f x = nI (brN C rw nm x)) : sett f n C = mskN (stP rw C nm n 16 0) C := by
  apply Nat.eq_of_testBit_eq
  intro i
  rw [sett_bit, msk_bit]
  by_cases h : i < C
  · rw [st_one hC hn h hf]
    simp [h]
  · have : Nat.testBit n i = false := Nat.testBit_lt_two_pow (Nat.lt_of_lt_of_le hn (Nat.pow_le_pow_right (by decide) (by omega)))
    rw [this]
    simp [h]
