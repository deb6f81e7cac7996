/-! COUNTING BITS -/
def pA (n : Nat) : Nat := n - (n / 2 ^ 1 &&& 1431655765)
def pB (a : Nat) : Nat := (a &&& 858993459) + (a / 2 ^ 2 &&& 858993459)
def pC (b : Nat) : Nat := (b + b / 2 ^ 4) &&& 252645135
def pD (c : Nat) : Nat := c + c / 2 ^ 8
def pE (d : Nat) : Nat := (d + d / 2 ^ 16) &&& 63
def pp (n : Nat) : Nat := n % 2 + n / 2 % 2 + n / 4 % 2 + n / 8 % 2 + n / 16 % 2 + n / 32 % 2 + n / 64 % 2 + n / 128 % 2 + n / 256 % 2 + n / 512 % 2 + n / 1024 % 2 + n / 2048 % 2 + n / 4096 % 2 + n / 8192 % 2 + n / 16384 % 2 + n / 32768 % 2
def pchk (n : Nat) : Bool := Nat.beq (pE (pD (pC (pB (pA n))))) (pp n) && Nat.ble (n / 2 ^ 1 &&& 1431655765) n
def pch2 (i : Nat) : Bool := al (fun h => al (fun l => pchk (256 * (8 * i + h) + l)) 256) 8
theorem pch_0 : pch2 0 = true := by decide +kernel
theorem pch_1 : pch2 1 = true := by decide +kernel
theorem pch_2 : pch2 2 = true := by decide +kernel
theorem pch_3 : pch2 3 = true := by decide +kernel
theorem pch_4 : pch2 4 = true := by decide +kernel
theorem pch_5 : pch2 5 = true := by decide +kernel
theorem pch_6 : pch2 6 = true := by decide +kernel
theorem pch_7 : pch2 7 = true := by decide +kernel
theorem pch_8 : pch2 8 = true := by decide +kernel
theorem pch_9 : pch2 9 = true := by decide +kernel
theorem pch_10 : pch2 10 = true := by decide +kernel
theorem pch_11 : pch2 11 = true := by decide +kernel
theorem pch_12 : pch2 12 = true := by decide +kernel
theorem pch_13 : pch2 13 = true := by decide +kernel
theorem pch_14 : pch2 14 = true := by decide +kernel
theorem pch_15 : pch2 15 = true := by decide +kernel
theorem pch_16 : pch2 16 = true := by decide +kernel
theorem pch_17 : pch2 17 = true := by decide +kernel
theorem pch_18 : pch2 18 = true := by decide +kernel
theorem pch_19 : pch2 19 = true := by decide +kernel
theorem pch_20 : pch2 20 = true := by decide +kernel
theorem pch_21 : pch2 21 = true := by decide +kernel
theorem pch_22 : pch2 22 = true := by decide +kernel
theorem pch_23 : pch2 23 = true := by decide +kernel
theorem pch_24 : pch2 24 = true := by decide +kernel
theorem pch_25 : pch2 25 = true := by decide +kernel
theorem pch_26 : pch2 26 = true := by decide +kernel
theorem pch_27 : pch2 27 = true := by decide +kernel
theorem pch_28 : pch2 28 = true := by decide +kernel
theorem pch_29 : pch2 29 = true := by decide +kernel
theorem pch_30 : pch2 30 = true := by decide +kernel
theorem pch_31 : pch2 31 = true := by decide +kernel
theorem pch_all : ∀ i, i < 32 → pch2 i = true := by
  intro i hi
  match i, hi with
  | 0, _ => exact pch_0
  | 1, _ => exact pch_1
  | 2, _ => exact pch_2
  | 3, _ => exact pch_3
  | 4, _ => exact pch_4
  | 5, _ => exact pch_5
  | 6, _ => exact pch_6
  | 7, _ => exact pch_7
  | 8, _ => exact pch_8
  | 9, _ => exact pch_9
  | 10, _ => exact pch_10
  | 11, _ => exact pch_11
  | 12, _ => exact pch_12
  | 13, _ => exact pch_13
  | 14, _ => exact pch_14
  | 15, _ => exact pch_15
  | 16, _ => exact pch_16
  | 17, _ => exact pch_17
  | 18, _ => exact pch_18
  | 19, _ => exact pch_19
  | 20, _ => exact pch_20
  | 21, _ => exact pch_21
  | 22, _ => exact pch_22
  | 23, _ => exact pch_23
  | 24, _ => exact pch_24
  | 25, _ => exact pch_25
  | 26, _ => exact pch_26
  | 27, _ => exact pch_27
  | 28, _ => exact pch_28
  | 29, _ => exact pch_29
  | 30, _ => exact pch_30
  | 31, _ => exact pch_31
  | n + 32, h => exact absurd h (by omega)
theorem pp_eq (n : Nat) : pp n = popc n := by
  unfold pp popc
  simp only [sm, Nat.pow_zero, Nat.div_one, Nat.zero_add]
theorem pop_ok {n : Nat} (hn : n < 65536) : pE (pD (pC (pB (pA n)))) = popc n ∧ n / 2 ^ 1 &&& 1431655765 ≤ n := by
  have h := pch_all (n / 2048) (by omega)
  have h2 := al_iff.mp h (n / 256 % 8) (by omega)
  have h3 := al_iff.mp h2 (n % 256) (by omega)
  rw [show 256 * (8 * (n / 2048) + n / 256 % 8) + n % 256 = n by omega] at h3
  unfold pchk at h3
  rw [Bool.and_eq_true] at h3
  exact ⟨(Nat.eq_of_beq_eq_true h3.1).trans (pp_eq n), Nat.le_of_ble_eq_true h3.2⟩
