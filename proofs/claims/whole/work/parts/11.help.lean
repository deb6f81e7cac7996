/-! HELP: loops as values, numbers, digits -/
def b2i (p : Bool) : Int32 := if p = true then 1 else 0
def tn (x : Int32) : Nat := x.toNatClampNeg
def sm (f : Nat → Nat) : Nat → Nat
  | 0 => 0
  | n + 1 => sm f n + f n
def al (p : Nat → Bool) : Nat → Bool
  | 0 => true
  | n + 1 => al p n && p n
def ct1 (p : Bool) : Nat := if p = true then 1 else 0
def D (n c : Nat) : Nat := n / 5 ^ c % 5
theorem b2i_0 {p : Bool} : b2i p = 0 ↔ p = false := by cases p <;> simp [b2i]
theorem b2i_1 {p : Bool} : b2i p = 1 ↔ p = true := by cases p <;> simp [b2i]
theorem isB_b2i (p : Bool) : isB (b2i p) = true := by cases p <;> rfl
theorem b2i_t : b2i true = 1 := rfl
theorem b2i_f : b2i false = 0 := rfl
theorem tn_nI {n : Nat} (h : n < 2 ^ 31) : (nI n).toNatClampNeg = n := nI_clamp h
theorem tn_nI' {n : Nat} (h : n < 2 ^ 31) : tn (nI n) = n := nI_clamp h
theorem inB_nI {j n : Nat} (h : j < n) (hn : n < 2 ^ 31) : inB (nI j) n = true := by
  have := vp_in_nI h hn
  unfold vp_in at this
  unfold inB
  simpa using this
theorem inB_iff {s : Int32} {n : Nat} (hn : n < 2 ^ 31) : inB s n = true ↔ ∃ j : Nat, j < n ∧ s = nI j := by
  refine ⟨fun h => vp_in_of (inB_in h) hn, fun ⟨j, h1, h2⟩ => by rw [h2]; exact inB_nI h1 hn⟩
theorem inB_eq {j n : Nat} (hj : j < 2 ^ 31) (hn : n < 2 ^ 31) : inB (nI j) n = decide (j < n) := by
  by_cases h : j < n
  · rw [inB_nI h hn]; simp [h]
  · cases hb : inB (nI j) n with
    | false => simp [h]
    | true =>
      obtain ⟨i, h1, h2⟩ := (inB_iff hn).mp hb
      exact absurd ((nI_eq hj (by omega)).mp h2 ▸ h1) h
theorem inB_f {s : Int32} {n : Nat} (hn : n < 2 ^ 31) (h : inB s n = false) : s < 0 ∨ nI n ≤ s := by
  rcases pk_ix s hn with q | q | ⟨j, h1, h2⟩
  · exact Or.inl q
  · exact Or.inr q
  · rw [h2, inB_nI h1 hn] at h
    cases h
theorem inB_lt {s : Int32} {n : Nat} (hn : n < 2 ^ 31) (h : s < 0) : inB s n = false := by
  cases hb : inB s n with
  | false => rfl
  | true =>
    obtain ⟨i, h1, h2⟩ := (inB_iff hn).mp hb
    rw [h2] at h
    exact absurd h (nI_pos (by omega))
theorem inB_ge {s : Int32} {n : Nat} (hn : n < 2 ^ 31) (h : nI n ≤ s) : inB s n = false := by
  cases hb : inB s n with
  | false => rfl
  | true =>
    obtain ⟨i, h1, h2⟩ := (inB_iff hn).mp hb
    rw [h2] at h
    exact absurd h (nI_ge h1 hn)
section LOOPS
variable {T : List (Nat × Stq)} {K : List (Nat × Nat)} {pc : Nat} {o : Option AV × Sg}
theorem Rn_loop (L : Nat → Lc) (G : Nat → Sg) (n : Nat) (hs : ∀ c, c < n → seg T K 2000 pc (L c) [] (G c) = some (.inr (pc, L (c + 1), [], G (c + 1)))) (he : Rn T K pc (L n) [] (G n) o) : Rn T K pc (L 0) [] (G 0) o := by
  have h : ∀ k, k ≤ n → Rn T K pc (L (n - k)) [] (G (n - k)) o := by
    intro k
    induction k with
    | zero => intro _; exact he
    | succ k ih =>
      intro hk
      have e : n - k = n - (k + 1) + 1 := by omega
      exact Rn_go (hs (n - (k + 1)) (by omega)) (by rw [← e]; exact ih (by omega))
  have := h n (Nat.le_refl n)
  rwa [Nat.sub_self] at this
theorem Rn_loopE (P : Nat → Bool) (L : Nat → Lc) (G : Nat → Sg) (n : Nat) (hs : ∀ c, c < n → P c = true → seg T K 2000 pc (L c) [] (G c) = some (.inr (pc, L (c + 1), [], G (c + 1)))) (hx : ∀ c, c < n → P c = false → (∀ j, j < c → P j = true) → Rn T K pc (L c) [] (G c) o) (he : (∀ c, c < n → P c = true) → Rn T K pc (L n) [] (G n) o) : Rn T K pc (L 0) [] (G 0) o := by
  by_cases h : ∀ c, c < n → P c = true
  · exact Rn_loop L G n (fun c hc => hs c hc (h c hc)) (he h)
  · have h' : ∃ c, c < n ∧ P c = false := by
      refine Classical.byContradiction fun q => h fun c hc => ?_
      cases hp : P c with
      | true => rfl
      | false => exact absurd ⟨c, hc, hp⟩ q
    obtain ⟨c, ⟨hc, hp⟩, hl⟩ := pk_least (fun c => c < n ∧ P c = false) h'
    have hl' : ∀ j, j < c → P j = true := by
      intro j hj
      cases hq : P j with
      | true => rfl
      | false => exact absurd ⟨by omega, hq⟩ (hl j hj)
    exact Rn_loop L G c (fun j hj => hs j (by omega) (hl' j hj)) (hx c hc hp hl')
end LOOPS
theorem al_iff {p : Nat → Bool} : ∀ {n : Nat}, al p n = true ↔ ∀ c, c < n → p c = true
  | 0 => by simp [al]
  | n + 1 => by
    simp only [al, Bool.and_eq_true, al_iff (n := n)]
    refine ⟨fun h c hc => ?_, fun h => ⟨fun c hc => h c (by omega), h n (by omega)⟩⟩
    rcases Nat.lt_or_ge c n with q | q
    · exact h.1 c q
    · rw [show c = n by omega]; exact h.2
theorem al_f {p : Nat → Bool} {n c : Nat} (hc : c < n) (h : p c = false) : al p n = false := by
  cases ha : al p n with
  | false => rfl
  | true => rw [al_iff.mp ha c hc] at h; cases h
theorem sm_le {f : Nat → Nat} {b : Nat} : ∀ {n : Nat}, (∀ i, i < n → f i ≤ b) → sm f n ≤ n * b
  | 0, _ => by simp [sm]
  | n + 1, h => by
    have := sm_le (n := n) (fun i hi => h i (by omega))
    have := h n (by omega)
    simp only [sm, Nat.add_mul]
    omega
theorem sm_congr {f f' : Nat → Nat} : ∀ {n : Nat}, (∀ i, i < n → f i = f' i) → sm f n = sm f' n
  | 0, _ => rfl
  | n + 1, h => by
    simp only [sm]
    rw [sm_congr (n := n) (fun i hi => h i (by omega)), h n (by omega)]
theorem al_congr {f f' : Nat → Bool} : ∀ {n : Nat}, (∀ i, i < n → f i = f' i) → al f n = al f' n
  | 0, _ => rfl
  | n + 1, h => by
    simp only [al]
    rw [al_congr (n := n) (fun i hi => h i (by omega)), h n (by omega)]
theorem ct1_le (p : Bool) : ct1 p ≤ 1 := by cases p <;> simp [ct1]
theorem D_lt (n c : Nat) : D n c < 5 := Nat.mod_lt _ (by decide)
theorem fiv_eq : ∀ c, c < 5 → fiv c = nI (5 ^ c) := by decide +kernel
theorem fiv_ne (c : Nat) : ¬ fiv c = 0 := by
  unfold fiv
  split <;> decide
theorem us_s (g : Sg) (k : Nat) (f : Nat → Int32) : us g k f k = f := if_pos rfl
theorem us_n {g : Sg} {k a : Nat} (f : Nat → Int32) (h : ¬ a = k) : us g k f a = g a := if_neg h
theorem us_us (g : Sg) (k : Nat) (f f' : Nat → Int32) : us (us g k f) k f' = us g k f' := by
  funext a
  by_cases h : a = k
  · subst h; simp [us]
  · simp [us, h]
theorem us_id (g : Sg) (k : Nat) : us g k (g k) = g := by
  funext a
  by_cases h : a = k
  · subst h; simp [us]
  · simp [us, h]
theorem ct1_t : ct1 true = 1 := rfl
theorem ct1_f : ct1 false = 0 := rfl
