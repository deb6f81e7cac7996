/-! THE TALLY: what the sums by columns and the halving come to -/
theorem sm_add (f h : Nat → Nat) : ∀ n, sm f n + sm h n = sm (fun i => f i + h i) n
  | 0 => rfl
  | n + 1 => by
    have := sm_add f h n
    simp only [sm]
    omega
theorem sm_mul (k : Nat) (f : Nat → Nat) : ∀ n, sm (fun i => k * f i) n = k * sm f n
  | 0 => rfl
  | n + 1 => by
    simp only [sm]
    rw [sm_mul k f n, Nat.mul_add]
def ordN (rw : Nat → Bool) (bt : Nat → Nat → Nat) (Q : Nat → Bool) : Nat := sm (fun s => sm (fun t => ct1 (!decide (s = t) && rw s && rw t && Q (bt s t))) 16) 16
theorem ordN_congr {rw : Nat → Bool} {bt : Nat → Nat → Nat} {Q Q' : Nat → Bool} (h : ∀ s t, Q (bt s t) = Q' (bt s t)) : ordN rw bt Q = ordN rw bt Q' := sm_congr fun s _ => sm_congr fun t _ => by rw [h]
theorem ordN_add {rw : Nat → Bool} {bt : Nat → Nat → Nat} {Q Q' R : Nat → Bool} (h : ∀ s t, ct1 (Q (bt s t)) + ct1 (Q' (bt s t)) = ct1 (R (bt s t))) : ordN rw bt Q + ordN rw bt Q' = ordN rw bt R := by
  unfold ordN
  rw [sm_add]
  refine sm_congr fun s _ => ?_
  rw [sm_add]
  refine sm_congr fun t _ => ?_
  cases (!decide (s = t) && rw s && rw t)
  · rfl
  · simp only [Bool.true_and]
    exact h s t
def PR (c x b : Nat) : Bool := al (fun j => if j = c then true else if j < c then covD (D x j) (D b j) else decide (D x j = D b j)) 4
def PA (c x b : Nat) : Bool := al (fun j => if j < c then covD (D x j) (D b j) else decide (D x j = D b j)) 4
theorem al_pick {p : Nat → Bool} {n c : Nat} (hc : c < n) : al p n = (al (fun j => if j = c then true else p j) n && p c) := by
  have : (al p n = true) ↔ ((al (fun j => if j = c then true else p j) n && p c) = true) := by
    rw [Bool.and_eq_true, al_iff, al_iff]
    refine ⟨fun h => ⟨fun j hj => ?_, h c hc⟩, fun h j hj => ?_⟩
    · by_cases q : j = c
      · simp [q]
      · simp [q, h j hj]
    · by_cases q : j = c
      · rw [q]; exact h.2
      · have := h.1 j hj
        simpa [q] using this
  cases ha : al p n <;> cases hb : (al (fun j => if j = c then true else p j) n && p c) <;> simp_all
theorem PA_0 {c : Nat} (hc : c < 4) (x b : Nat) : PA c x b = (PR c x b && decide (D x c = D b c)) := by
  unfold PA PR
  rw [al_pick hc]
  simp
theorem PA_1 {c : Nat} (hc : c < 4) (x b : Nat) : PA (c + 1) x b = (PR c x b && covD (D x c) (D b c)) := by
  unfold PA PR
  rw [al_pick hc]
  have : ∀ j, (if j = c then true else if j < c + 1 then covD (D x j) (D b j) else decide (D x j = D b j)) = (if j = c then true else if j < c then covD (D x j) (D b j) else decide (D x j = D b j)) := by
    intro j
    by_cases q : j = c
    · simp [q]
    · by_cases q2 : j < c
      · simp [q, q2, show j < c + 1 by omega]
      · simp [q, q2, show ¬ j < c + 1 by omega]
  simp only [this]
  simp
theorem D_same0 : ∀ c, c < 4 → ∀ x, x < 625 → D x c = 0 → ∀ k, k < 5 → ∀ j, j < 4 → (decide (j = c) || decide (D (x + k * 5 ^ c) j = D x j)) = true := by decide +kernel
theorem D_same (c : Nat) (hc : c < 4) (x : Nat) (hx : x < 625) (h0 : D x c = 0) (k : Nat) (hk : k < 5) (j : Nat) (hj : j < 4) (hn : ¬ j = c) : D (x + k * 5 ^ c) j = D x j := by
  have := D_same0 c hc x hx h0 k hk j hj
  simpa [hn] using this
theorem PR_up {c x k : Nat} (hc : c < 4) (hx : x < 625) (h0 : D x c = 0) (hk : k < 5) (b : Nat) : PR c (x + k * 5 ^ c) b = PR c x b := by
  unfold PR
  refine al_congr fun j hj => ?_
  by_cases q : j = c
  · simp [q]
  · rw [D_same c hc x hx h0 k hk j hj q]
theorem ct_4 (R : Bool) {w : Nat} (h1 : 1 ≤ w) (h2 : w < 5) : ct1 (R && decide (1 = w)) + (ct1 (R && decide (2 = w)) + ct1 (R && decide (3 = w)) + ct1 (R && decide (4 = w))) = ct1 (R && covD 0 w) := by
  have : w = 1 ∨ w = 2 ∨ w = 3 ∨ w = 4 := by omega
  rcases this with rfl | rfl | rfl | rfl <;> cases R <;> rfl
theorem ct_2 (R : Bool) {w : Nat} (h1 : 1 ≤ w) (h2 : w < 5) : ct1 (R && decide (2 = w)) + ct1 (R && decide (3 = w)) + ct1 (R && decide (4 = w)) = ct1 (R && covD 2 w) := by
  have : w = 1 ∨ w = 2 ∨ w = 3 ∨ w = 4 := by omega
  rcases this with rfl | rfl | rfl | rfl <;> cases R <;> rfl
theorem sumA_eq {C : Nat} (hC : C < 5) {rw : Nat → Bool} {bt : Nat → Nat → Nat} (hb : ∀ s t c, c < C → 1 ≤ D (bt s t) c) {f : Nat → Int32} (hf : ∀ x, x < 5 ^ C → f x = nI (ordN rw bt (PA 0 x))) : ∀ c, c ≤ C → ∀ x, x < 5 ^ C → sumA f (5 ^ C) c x = nI (ordN rw bt (PA c x))
  | 0, _, x, hx => hf x hx
  | c + 1, hc, x, hx => by
    have ih := sumA_eq hC hb hf c (by omega)
    have h625 := p5_le hC
    have hc4 : c < 4 := by omega
    show sumP (sumA f (5 ^ C) c) c (5 ^ C) (5 ^ C) x = _
    unfold sumP
    have hle : x - D x c * 5 ^ c < 5 ^ C := by omega
    rw [if_pos ⟨hx, hle⟩]
    unfold sumG
    by_cases h0 : D x c = 0
    · rw [if_pos h0]
      have hin := D_in C hC c (by omega) x hx h0
      have hp : 0 < 5 ^ c := Nat.pow_pos (by decide)
      have e : ∀ k, k < 5 → k ≤ 4 → sumA f (5 ^ C) c (x + k * 5 ^ c) = nI (ordN rw bt (fun b => PR c x b && decide (k = D b c))) := by
        intro k hk hk4
        have : k * 5 ^ c ≤ 4 * 5 ^ c := Nat.mul_le_mul_right _ hk4
        rw [ih _ (by omega)]
        congr 1
        refine ordN_congr fun s t => ?_
        rw [PA_0 hc4, PR_up hc4 (by omega) h0 hk, (D_up c hc4 x (by omega) h0 k hk).1]
      rw [e 1 (by decide) (by decide), e 2 (by decide) (by decide), e 3 (by decide) (by decide), e 4 (by decide) (by decide), nI_add, nI_add, nI_add]
      congr 1
      have a1 := ordN_add (rw := rw) (bt := bt) (Q := fun b => PR c x b && decide (2 = D b c)) (Q' := fun b => PR c x b && decide (3 = D b c)) (R := fun b => PR c x b && (decide (2 = D b c) || decide (3 = D b c))) (fun s t => by
        have := D_lt (bt s t) c
        generalize D (bt s t) c = w at *
        cases PR c x (bt s t) <;> (have : w = 0 ∨ w = 1 ∨ w = 2 ∨ w = 3 ∨ w = 4 := by omega) <;> rcases this with rfl | rfl | rfl | rfl | rfl <;> rfl)
      have a2 := ordN_add (rw := rw) (bt := bt) (Q := fun b => PR c x b && (decide (2 = D b c) || decide (3 = D b c))) (Q' := fun b => PR c x b && decide (4 = D b c)) (R := fun b => PR c x b && covD 2 (D b c)) (fun s t => by
        have := D_lt (bt s t) c
        generalize D (bt s t) c = w at *
        cases PR c x (bt s t) <;> (have : w = 0 ∨ w = 1 ∨ w = 2 ∨ w = 3 ∨ w = 4 := by omega) <;> rcases this with rfl | rfl | rfl | rfl | rfl <;> rfl)
      have a3 := ordN_add (rw := rw) (bt := bt) (Q := fun b => PR c x b && decide (1 = D b c)) (Q' := fun b => PR c x b && covD 2 (D b c)) (R := fun b => PA (c + 1) x b) (fun s t => by
        have h1 := hb s t c (by omega)
        have := D_lt (bt s t) c
        rw [PA_1 hc4, h0]
        generalize D (bt s t) c = w at *
        cases PR c x (bt s t) <;> (have : w = 1 ∨ w = 2 ∨ w = 3 ∨ w = 4 := by omega) <;> rcases this with rfl | rfl | rfl | rfl <;> rfl)
      rw [a1, a2, a3]
    · rw [if_neg h0]
      by_cases h2 : D x c = 2
      · rw [if_pos h2]
        obtain ⟨d0, dx⟩ := D_base c hc4 x (by omega)
        generalize hy : x - D x c * 5 ^ c = y at *
        rw [h2] at dx
        have hin := D_in C hC c (by omega) y (by omega) d0
        have e : ∀ k, k < 5 → k ≤ 4 → sumA f (5 ^ C) c (y + k * 5 ^ c) = nI (ordN rw bt (fun b => PR c y b && decide (k = D b c))) := by
          intro k hk hk4
          have : k * 5 ^ c ≤ 4 * 5 ^ c := Nat.mul_le_mul_right _ hk4
          rw [ih _ (by omega)]
          congr 1
          refine ordN_congr fun s t => ?_
          rw [PA_0 hc4, PR_up hc4 (by omega) d0 hk, (D_up c hc4 y (by omega) d0 k hk).1]
        have x3 : x + 1 * 5 ^ c = y + 3 * 5 ^ c := by omega
        have x4 : x + 2 * 5 ^ c = y + 4 * 5 ^ c := by omega
        rw [x3, x4]
        rw [show sumA f (5 ^ C) c x = sumA f (5 ^ C) c (y + 2 * 5 ^ c) by rw [← dx]]
        rw [e 2 (by decide) (by decide), e 3 (by decide) (by decide), e 4 (by decide) (by decide), nI_add, nI_add]
        congr 1
        have a1 := ordN_add (rw := rw) (bt := bt) (Q := fun b => PR c y b && decide (2 = D b c)) (Q' := fun b => PR c y b && decide (3 = D b c)) (R := fun b => PR c y b && (decide (2 = D b c) || decide (3 = D b c))) (fun s t => by
          have := D_lt (bt s t) c
          generalize D (bt s t) c = w at *
          cases PR c y (bt s t) <;> (have : w = 0 ∨ w = 1 ∨ w = 2 ∨ w = 3 ∨ w = 4 := by omega) <;> rcases this with rfl | rfl | rfl | rfl | rfl <;> rfl)
        have a2 := ordN_add (rw := rw) (bt := bt) (Q := fun b => PR c y b && (decide (2 = D b c) || decide (3 = D b c))) (Q' := fun b => PR c y b && decide (4 = D b c)) (R := fun b => PA (c + 1) x b) (fun s t => by
          have := D_lt (bt s t) c
          rw [PA_1 hc4, h2]
          rw [show PR c x (bt s t) = PR c y (bt s t) by rw [dx, PR_up hc4 (by omega) d0 (by decide)]]
          generalize D (bt s t) c = w at *
          cases PR c y (bt s t) <;> (have : w = 0 ∨ w = 1 ∨ w = 2 ∨ w = 3 ∨ w = 4 := by omega) <;> rcases this with rfl | rfl | rfl | rfl | rfl <;> rfl)
        rw [a1, a2]
      · rw [if_neg h2, ih x hx]
        congr 1
        refine ordN_congr fun s t => ?_
        rw [PA_0 hc4, PA_1 hc4]
        congr 1
        unfold covD
        rw [if_neg h2]
        simp [h0]
theorem PA_00 {x b : Nat} (hx : x < 625) (hb : b < 625) : PA 0 x b = decide (b = x) := by
  by_cases h : b = x
  · subst h
    simp [PA, al]
  · rw [decide_eq_false h]
    cases ha : PA 0 x b with
    | false => rfl
    | true =>
      refine absurd (D_ext hb hx fun c hc => ?_) h
      have := al_iff.mp ha c hc
      simp at this
      exact this.symm
theorem PA_cov {C x b : Nat} (hx : x < 5 ^ C) (hb : b < 5 ^ C) : PA C x b = cov x b := by
  unfold PA cov
  refine al_congr fun j _ => ?_
  by_cases h : j < C
  · simp [h]
  · rw [D_big hx (by omega), D_big hb (by omega)]
    simp [h, covD]
theorem sym_sum (G : Nat → Nat → Nat) (h : ∀ s, G s s = 0) : ∀ n, sm (fun s => sm (fun t => G s t) n) n = sm (fun s => sm (fun i => G s (s + 1 + i) + G (s + 1 + i) s) (n - 1 - s)) n
  | 0 => rfl
  | n + 1 => by
    have ih := sym_sum G h n
    have e1 : sm (fun s => sm (fun t => G s t) (n + 1)) (n + 1) = sm (fun s => sm (fun t => G s t) n) n + sm (fun s => G s n + G n s) n := by
      simp only [sm]
      rw [← sm_add, ← sm_add, h n]
      have e9 : sm (G n) n = sm (fun t => G n t) n := rfl
      omega
    have e2 : sm (fun s => sm (fun i => G s (s + 1 + i) + G (s + 1 + i) s) (n + 1 - 1 - s)) (n + 1) = sm (fun s => sm (fun i => G s (s + 1 + i) + G (s + 1 + i) s) (n - 1 - s)) n + sm (fun s => G s n + G n s) n := by
      simp only [sm]
      rw [sm_add, show n + 1 - 1 - n = 0 by omega]
      simp only [sm, Nat.add_zero]
      refine sm_congr fun s hs => ?_
      rw [show n + 1 - 1 - s = (n - 1 - s) + 1 by omega]
      simp only [sm]
      rw [show s + 1 + (n - 1 - s) = n by omega]
    rw [e1, e2, ih]
theorem so_two {C n : Nat} (hC : C < 5) (hn : n < 5 ^ C) {nm : Nat → Nat → Int32} {s t : Nat} (h1 : soB C nm n s t = true) (h2 : soB C nm n t s = true) : tun n = n := by
  have h625 := p5_le hC
  refine D_ext (tun_lt' (by omega)) (by omega) fun c hc => ?_
  rw [tun_D n (by omega) c hc]
  rcases Nat.lt_or_ge c C with q | q
  · have a := al_iff.mp h1 c q
    have b := al_iff.mp h2 c q
    rw [wd_sw] at b
    unfold soD at a b
    generalize wd (nm s c) (nm t c) = w at a b
    unfold sw at b ⊢
    by_cases k3 : D n c = 3
    · simp [k3] at a b
      subst a
      simp at b
    · by_cases k4 : D n c = 4
      · simp [k4] at a b
        subst a
        simp at b
      · simp [k3, k4]
  · rw [D_big hn q]
    rfl
theorem brk_eq {C : Nat} (hC : C < 5) (rw : Nat → Bool) (nm : Nat → Nat → Int32) {f : Nat → Int32} (hf : ∀ x, x < 625 → f x = nI (seenN rw (btw C nm) x)) {n : Nat} (hn : n < 5 ^ C) : brkF f C n = nI (brN C rw nm n) := by
  have h625 := p5_le hC
  have hS := sumA_eq hC (rw := rw) (bt := btw C nm) (fun s t c hc => by rw [btw_D, if_pos hc]; exact (wd_r _ _).1) (f := f) (fun x hx => by
    rw [hf x (by omega)]
    congr 1
    unfold seenN pair2 ordN
    refine sm_congr fun s _ => sm_congr fun t _ => ?_
    have := btw_ltC C nm s t
    rw [PA_00 (by omega) (by omega)]) C (Nat.le_refl _) n hn
  have hO : ordN rw (btw C nm) (PA C n) = sm (fun s => sm (fun i => ct1 (rw s && rw (s + 1 + i) && soB C nm n s (s + 1 + i)) + ct1 (rw s && rw (s + 1 + i) && soB C nm n (s + 1 + i) s)) (15 - s)) 16 := by
    unfold ordN
    rw [sym_sum (fun s t => ct1 (!decide (s = t) && rw s && rw t && PA C n (btw C nm s t))) (fun s => by simp [ct1])]
    refine sm_congr fun s _ => sm_congr fun i _ => ?_
    have e1 : ¬ s = s + 1 + i := by omega
    have e2 : ¬ s + 1 + i = s := by omega
    rw [PA_cov hn (btw_ltC C nm _ _), PA_cov hn (btw_ltC C nm _ _), cov_so hC hn, cov_so hC hn, decide_eq_false e1, decide_eq_false e2]
    simp [Bool.and_comm]
  unfold brkF halP
  rw [hS, hO]
  by_cases h : tun n = n
  · rw [if_pos ⟨hn, h⟩]
    have e : sm (fun s => sm (fun i => ct1 (rw s && rw (s + 1 + i) && soB C nm n s (s + 1 + i)) + ct1 (rw s && rw (s + 1 + i) && soB C nm n (s + 1 + i) s)) (15 - s)) 16 = 2 * brN C rw nm n := by
      unfold brN
      rw [← sm_mul]
      refine sm_congr fun s _ => ?_
      rw [← sm_mul]
      refine sm_congr fun i _ => ?_
      have : soB C nm n (s + 1 + i) s = soB C nm n s (s + 1 + i) := by rw [← so_tun hC hn, h]
      unfold brB
      rw [this, Bool.or_self]
      omega
    have hb : brN C rw nm n ≤ 16 * (15 * 1) := by
      refine sm_le fun s _ => ?_
      have := sm_le (f := fun i => ct1 (brB C rw nm n s (s + 1 + i))) (b := 1) (n := 15 - s) (fun i _ => ct1_le _)
      omega
    rw [e]
    have : (2 : Int32) = nI 2 := rfl
    rw [this, pk_div (by omega) (by decide) (by decide)]
    congr 1
    omega
  · rw [if_neg (fun q => h q.2)]
    congr 1
    unfold brN
    refine sm_congr fun s _ => sm_congr fun i _ => ?_
    unfold brB
    cases h1 : soB C nm n s (s + 1 + i) with
    | false => simp [ct1_f]
    | true =>
      cases h2 : soB C nm n (s + 1 + i) s with
      | false => simp [ct1_f]
      | true => exact absurd (so_two hC hn h1 h2) h
