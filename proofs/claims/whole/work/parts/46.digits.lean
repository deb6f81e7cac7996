/-! DIGITS AND LAWS -/
theorem D_big {n C c : Nat} (h : n < 5 ^ C) (hc : C ≤ c) : D n c = 0 := by
  unfold D
  rw [Nat.div_eq_of_lt (Nat.lt_of_lt_of_le h (Nat.pow_le_pow_right (by decide) hc))]
theorem V_lt {d : Nat → Nat} (hd : ∀ c, d c < 5) : ∀ C, sm (fun c => 5 ^ c * d c) C < 5 ^ C
  | 0 => by simp [sm]
  | C + 1 => by
    have ih := V_lt hd C
    have := hd C
    have h4 : 5 ^ C * d C ≤ 5 ^ C * 4 := Nat.mul_le_mul_left _ (by omega)
    simp only [sm, Nat.pow_succ]
    omega
theorem V_D {d : Nat → Nat} (hd : ∀ c, d c < 5) : ∀ C c, D (sm (fun c => 5 ^ c * d c) C) c = if c < C then d c else 0
  | 0, c => by simp [sm, D]
  | C + 1, c => by
    have ih := V_D hd C c
    have hl := V_lt hd C
    have hl' := V_lt hd (C + 1)
    by_cases h1 : c < C
    · have e : 5 ^ C = 5 ^ c * (5 * 5 ^ (C - c - 1)) := by
        rw [← Nat.mul_assoc, ← Nat.pow_succ, ← Nat.pow_add]
        congr 1
        omega
      rw [if_pos (by omega)]
      rw [if_pos h1] at ih
      rw [← ih]
      simp only [sm]
      unfold D
      rw [e, Nat.mul_assoc, Nat.add_mul_div_left _ _ (Nat.pow_pos (by decide)), Nat.mul_assoc, Nat.add_mul_mod_self_left]
    · by_cases h2 : c = C
      · subst h2
        rw [if_pos (by omega)]
        simp only [sm]
        unfold D
        rw [Nat.add_mul_div_left _ _ (Nat.pow_pos (by decide)), Nat.div_eq_of_lt hl, Nat.zero_add, Nat.mod_eq_of_lt (hd c)]
      · rw [if_neg (by omega), D_big hl' (by omega)]
theorem D_ext {n m : Nat} (hn : n < 625) (hm : m < 625) (h : ∀ c, c < 4 → D n c = D m c) : n = m := by
  have h0 := h 0 (by decide)
  have h1 := h 1 (by decide)
  have h2 := h 2 (by decide)
  have h3 := h 3 (by decide)
  simp [D] at h0 h1 h2 h3
  omega
theorem p5_le {C : Nat} (h : C < 5) : 5 ^ C ≤ 625 := by
  have : 5 ^ C ≤ 5 ^ 4 := Nat.pow_le_pow_right (by decide) (by omega)
  simpa using this
theorem wd_r (a b : Int32) : 1 ≤ wd a b ∧ wd a b < 5 := by
  unfold wd
  repeat' split
  all_goals decide
theorem wd_sw (a b : Int32) : wd b a = sw (wd a b) := by
  unfold wd
  by_cases h1 : a = 1000
  · by_cases h2 : b = 1000 <;> simp [h1, h2, sw]
  · by_cases h2 : b = 1000
    · simp [h1, h2, sw]
    · by_cases h3 : a = b
      · simp [h3, h2, sw]
      · have h3' : ¬ b = a := fun q => h3 q.symm
        have hne : a.toInt ≠ b.toInt := fun q => h3 (Int32.toInt_inj.mp q)
        by_cases h4 : a < b
        · have h5 : ¬ b < a := by
            rw [Int32.lt_iff_toInt_lt] at h4 ⊢
            omega
          simp [h1, h2, h3, h3', h4, h5, sw]
        · have h5 : b < a := by
            rw [Int32.lt_iff_toInt_lt] at h4 ⊢
            omega
          simp [h1, h2, h3, h3', h4, h5, sw]
theorem btw_D (C : Nat) (nm : Nat → Nat → Int32) (s t c : Nat) : D (btw C nm s t) c = if c < C then wd (nm s c) (nm t c) else 0 := V_D (fun c => (wd_r _ _).2) C c
theorem btw_ltC (C : Nat) (nm : Nat → Nat → Int32) (s t : Nat) : btw C nm s t < 5 ^ C := V_lt (fun c => (wd_r _ _).2) C
theorem tun_D : ∀ n, n < 625 → ∀ c, c < 4 → D (tun n) c = sw (D n c) := by decide +kernel
theorem tun_ltC : ∀ n, n < 625 → ∀ C, C < 5 → n < 5 ^ C → tun n < 5 ^ C := by decide +kernel
theorem tun_lt' {n : Nat} (h : n < 625) : tun n < 625 := tun_lt n h
theorem sw_sw (d : Nat) : sw (sw d) = d := by
  unfold sw
  repeat' split
  all_goals omega
theorem tun_tun {n : Nat} (h : n < 625) : tun (tun n) = n := D_ext (tun_lt' (tun_lt' h)) h (fun c hc => by rw [tun_D _ (tun_lt' h) c hc, tun_D n h c hc, sw_sw])
theorem covD_so {d w : Nat} (h1 : 1 ≤ w) (h2 : w < 5) : covD d w = soD d w := by
  unfold covD soD
  split
  · rw [← decide_not]
    congr 1
    simp
    omega
  · rfl
theorem soD_sw {d w : Nat} : soD (sw d) w = soD d (sw w) := by
  unfold soD
  have e1 : sw d = 2 ↔ d = 2 := by
    unfold sw
    repeat' split
    all_goals omega
  have e2 : sw w = 1 ↔ w = 1 := by
    unfold sw
    repeat' split
    all_goals omega
  have e3 : sw d = 0 ↔ d = 0 := by
    unfold sw
    repeat' split
    all_goals omega
  have e4 : sw d = w ↔ d = sw w := ⟨fun q => by rw [← q, sw_sw], fun q => by rw [q, sw_sw]⟩
  by_cases h : d = 2
  · rw [if_pos (e1.mpr h), if_pos h]
    simp [e2]
  · rw [if_neg (fun q => h (e1.mp q)), if_neg h]
    simp [e3, e4]
theorem al_ext {p q : Nat → Bool} {n m : Nat} (hnm : n ≤ m) (h : ∀ c, c < n → p c = q c) (h' : ∀ c, n ≤ c → c < m → p c = true) : al p m = al q n := by
  have : (al p m = true) ↔ (al q n = true) := by
    rw [al_iff, al_iff]
    refine ⟨fun k c hc => by rw [← h c hc]; exact k c (by omega), fun k c hc => ?_⟩
    rcases Nat.lt_or_ge c n with z | z
    · rw [h c z]; exact k c z
    · exact h' c z hc
  cases ha : al p m <;> cases hb : al q n <;> simp_all
theorem cov_so {C n : Nat} (hC : C < 5) (hn : n < 5 ^ C) (nm : Nat → Nat → Int32) (s t : Nat) : cov n (btw C nm s t) = soB C nm n s t := by
  unfold cov soB
  refine al_ext (by omega) (fun c hc => ?_) (fun c h1 h2 => ?_)
  · rw [btw_D, if_pos hc, covD_so (wd_r _ _).1 (wd_r _ _).2]
  · rw [D_big hn h1]
    rfl
theorem so_tun {C n : Nat} (hC : C < 5) (hn : n < 5 ^ C) (nm : Nat → Nat → Int32) (s t : Nat) : soB C nm (tun n) s t = soB C nm n t s := by
  unfold soB
  have := p5_le hC
  exact al_congr fun c hc => by rw [tun_D n (by omega) c (by omega), soD_sw, ← wd_sw]
theorem brB_sym (C : Nat) (rw : Nat → Bool) (nm : Nat → Nat → Int32) (n s t : Nat) : brB C rw nm n s t = brB C rw nm n t s := by
  unfold brB
  rw [Bool.and_comm (rw s), Bool.or_comm]
theorem brB_tun {C n : Nat} (hC : C < 5) (hn : n < 5 ^ C) (rw : Nat → Bool) (nm : Nat → Nat → Int32) (s t : Nat) : brB C rw nm (tun n) s t = brB C rw nm n s t := by
  unfold brB
  rw [so_tun hC hn, so_tun hC hn, Bool.or_comm]
theorem brN_tun {C n : Nat} (hC : C < 5) (hn : n < 5 ^ C) (rw : Nat → Bool) (nm : Nat → Nat → Int32) : brN C rw nm (tun n) = brN C rw nm n := by
  unfold brN
  exact sm_congr fun s _ => sm_congr fun i _ => by rw [brB_tun hC hn]
theorem srt_eq (n : Nat) : srtN n = srtM n := by
  unfold srtN srtM
  generalize cnO n 4 = a
  generalize cnU n 4 = b
  by_cases h1 : 1 < a
  · rw [if_pos h1, if_neg (by omega), if_neg (by omega), if_pos h1]
  · by_cases h2 : a = 1
    · rw [if_neg h1, if_pos h2, if_neg (by omega), if_neg (by omega), if_neg h1]
    · have h3 : a = 0 := by omega
      rw [if_neg h1, if_neg h2]
      by_cases h4 : 1 < b
      · rw [if_pos h4, if_neg (by omega), if_neg (by omega), if_neg h1]
      · by_cases h5 : b = 1
        · rw [if_neg h4, if_pos h5, if_neg (by omega), if_pos ⟨h5, h3⟩]
        · rw [if_neg h4, if_neg h5, if_pos ⟨by omega, h3⟩]
theorem cov_sa (a b : Nat) : cov b a = saB a b := by
  unfold cov saB
  refine al_congr fun c _ => ?_
  unfold covD saD
  by_cases h : D b c = 2
  · rw [if_pos h]
    by_cases h2 : 2 ≤ D a c
    · by_cases h3 : D a c = 2
      · simp [h, h3]
      · simp [h, h2, show 2 < D a c by omega]
    · simp [h, h2, show ¬ D a c = 2 by omega, show ¬ 2 < D a c by omega]
  · rw [if_neg h]
    have : (D b c = D a c) ↔ (D a c = D b c) := eq_comm
    simp [h, this]
theorem pr_eq0 : ∀ C, C < 5 → ∀ b, b < 625 → (decide (0 < b) && decide (b < 5 ^ C) && decide (cols b = C)) = (decide (b < 5 ^ C) && al (fun c => !decide (D b c = 0)) C && decide (0 < C)) := by decide +kernel
