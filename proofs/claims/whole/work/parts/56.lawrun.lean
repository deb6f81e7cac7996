/-! THE LAW'S RUN -/
theorem lc_table {E : Ex} {g : Sg} {x : Int32} (h : Inw g) (i1 : inB (x + nI 1) E.1 = true) : ∃ g', Inw g' ∧ seg (T_L_law E ev_L_law) K_L_law 2000 148 [some (.inr (some 1000001)), some (.inr (some 0)), some (.inr (some 51)), some (.inl x)] [] g = some (.inr (897, [some (.inr (some 1000001)), some (.inr (some 0)), some (.inr (some 51)), some (.inl x)], [], g')) := by
  obtain ⟨q1, q2, q3, q4⟩ := op_table h (E.2 (x + (nI 1)).toNatClampNeg)
  exact ⟨_, q4, by rw [blk_L_law_148, if_pos i1, if_pos q1, if_pos i1, if_pos q2, if_pos q3]⟩
theorem lc_put {E : Ex} {g : Sg} {x : Int32} (h : Inw g) (i1 : inB (x + nI 1) E.1 = true) (i2 : inB (x + nI 2) E.1 = true) (i3 : inB (x + nI 3) E.1 = true) (i4 : inB (x + nI 4) E.1 = true) (i5 : inB (x + nI 5) E.1 = true) (i6 : inB (x + nI 6) E.1 = true) (i7 : inB (x + nI 7) E.1 = true) : ∃ g', Inw g' ∧ seg (T_L_law E ev_L_law) K_L_law 2000 171 [some (.inr (some 1000001)), some (.inr (some 0)), some (.inr (some 51)), some (.inl x)] [] g = some (.inr (897, [some (.inr (some 1000001)), some (.inr (some 0)), some (.inr (some 51)), some (.inl x)], [], g')) := by
  obtain ⟨q1, q2, q3, q4⟩ := op_put h (E.2 (x + (nI 1)).toNatClampNeg) (E.2 (x + (nI 2)).toNatClampNeg) (E.2 (x + (nI 3)).toNatClampNeg) (E.2 (x + (nI 4)).toNatClampNeg) (E.2 (x + (nI 5)).toNatClampNeg) (E.2 (x + (nI 6)).toNatClampNeg) (E.2 (x + (nI 7)).toNatClampNeg)
  exact ⟨_, q4, by rw [blk_L_law_171, if_pos i1, if_pos i2, if_pos i3, if_pos i4, if_pos i5, if_pos i6, if_pos i7, if_pos q1, if_pos i1, if_pos i2, if_pos i3, if_pos i4, if_pos i5, if_pos i6, if_pos i7, if_pos q2, if_pos q3]⟩
theorem lc_change {E : Ex} {g : Sg} {x : Int32} (h : Inw g) (i1 : inB (x + nI 1) E.1 = true) (i2 : inB (x + nI 2) E.1 = true) (i3 : inB (x + nI 3) E.1 = true) : ∃ g', Inw g' ∧ seg (T_L_law E ev_L_law) K_L_law 2000 258 [some (.inr (some 1000001)), some (.inr (some 0)), some (.inr (some 51)), some (.inl x)] [] g = some (.inr (897, [some (.inr (some 1000001)), some (.inr (some 0)), some (.inr (some 51)), some (.inl x)], [], g')) := by
  obtain ⟨q1, q2, q3, q4⟩ := op_change h (E.2 (x + (nI 1)).toNatClampNeg) (E.2 (x + (nI 2)).toNatClampNeg) (E.2 (x + (nI 3)).toNatClampNeg)
  exact ⟨_, q4, by rw [blk_L_law_258, if_pos i1, if_pos i2, if_pos i3, if_pos q1, if_pos i1, if_pos i2, if_pos i3, if_pos q2, if_pos q3]⟩
theorem lc_strike {E : Ex} {g : Sg} {x : Int32} (h : Inw g) (i1 : inB (x + nI 1) E.1 = true) : ∃ g', Inw g' ∧ seg (T_L_law E ev_L_law) K_L_law 2000 301 [some (.inr (some 1000001)), some (.inr (some 0)), some (.inr (some 51)), some (.inl x)] [] g = some (.inr (897, [some (.inr (some 1000001)), some (.inr (some 0)), some (.inr (some 51)), some (.inl x)], [], g')) := by
  obtain ⟨q1, q2, q3, q4⟩ := op_strike h (E.2 (x + (nI 1)).toNatClampNeg)
  exact ⟨_, q4, by rw [blk_L_law_301, if_pos i1, if_pos q1, if_pos i1, if_pos q2, if_pos q3]⟩
theorem lc_price {E : Ex} {g : Sg} {x : Int32} (h : Inw g) (i1 : inB (x + nI 1) E.1 = true) (i2 : inB (x + nI 2) E.1 = true) : ∃ g', Inw g' ∧ seg (T_L_law E ev_L_law) K_L_law 2000 324 [some (.inr (some 1000001)), some (.inr (some 0)), some (.inr (some 51)), some (.inl x)] [] g = some (.inr (897, [some (.inr (some 1000001)), some (.inr (some 0)), some (.inr (some 51)), some (.inl x)], [], g')) := by
  obtain ⟨q1, q2, q3, q4⟩ := op_price h (E.2 (x + (nI 1)).toNatClampNeg) (E.2 (x + (nI 2)).toNatClampNeg)
  exact ⟨_, q4, by rw [blk_L_law_324, if_pos i1, if_pos i2, if_pos q1, if_pos i1, if_pos i2, if_pos q2, if_pos q3]⟩
theorem lc_swap {E : Ex} {g : Sg} {x : Int32} (h : Inw g) (i1 : inB (x + nI 1) E.1 = true) (i2 : inB (x + nI 2) E.1 = true) : ∃ g', Inw g' ∧ seg (T_L_law E ev_L_law) K_L_law 2000 357 [some (.inr (some 1000001)), some (.inr (some 0)), some (.inr (some 51)), some (.inl x)] [] g = some (.inr (897, [some (.inr (some 1000001)), some (.inr (some 0)), some (.inr (some 51)), some (.inl x)], [], g')) := by
  obtain ⟨q1, q2, q3, q4⟩ := op_swap h (E.2 (x + (nI 1)).toNatClampNeg) (E.2 (x + (nI 2)).toNatClampNeg)
  exact ⟨_, q4, by rw [blk_L_law_357, if_pos i1, if_pos i2, if_pos q1, if_pos i1, if_pos i2, if_pos q2, if_pos q3]⟩
theorem lc_at {E : Ex} {g : Sg} {x : Int32} (h : Inw g) (i1 : inB (x + nI 1) E.1 = true) (i2 : inB (x + nI 2) E.1 = true) : ∃ g', Inw g' ∧ seg (T_L_law E ev_L_law) K_L_law 2000 390 [some (.inr (some 1000001)), some (.inr (some 0)), some (.inr (some 51)), some (.inl x)] [] g = some (.inr (897, [some (.inr (some 1000001)), some (.inr (some 0)), some (.inr (some 51)), some (.inl x)], [], g')) := by
  obtain ⟨q1, q2, q3, q4⟩ := op_at h (E.2 (x + (nI 1)).toNatClampNeg) (E.2 (x + (nI 2)).toNatClampNeg)
  exact ⟨_, q4, by rw [blk_L_law_390, if_pos i1, if_pos i2, if_pos q1, if_pos i1, if_pos i2, if_pos q2, if_pos q3]⟩
theorem lc_row {E : Ex} {g : Sg} {x : Int32} (h : Inw g) (i1 : inB (x + nI 1) E.1 = true) (i2 : inB (x + nI 2) E.1 = true) : ∃ g', Inw g' ∧ seg (T_L_law E ev_L_law) K_L_law 2000 423 [some (.inr (some 1000001)), some (.inr (some 0)), some (.inr (some 51)), some (.inl x)] [] g = some (.inr (897, [some (.inr (some 1000001)), some (.inr (some 0)), some (.inr (some 51)), some (.inl x)], [], g')) := by
  obtain ⟨q3, q4⟩ := op_row h (E.2 (x + (nI 1)).toNatClampNeg) (E.2 (x + (nI 2)).toNatClampNeg)
  exact ⟨_, q4, by rw [blk_L_law_423, if_pos i1, if_pos i2, if_pos i1, if_pos i2, if_pos q3]⟩
theorem lc_between {E : Ex} {g : Sg} {x : Int32} (h : Inw g) (i1 : inB (x + nI 1) E.1 = true) (i2 : inB (x + nI 2) E.1 = true) : ∃ g', Inw g' ∧ seg (T_L_law E ev_L_law) K_L_law 2000 456 [some (.inr (some 1000001)), some (.inr (some 0)), some (.inr (some 51)), some (.inl x)] [] g = some (.inr (897, [some (.inr (some 1000001)), some (.inr (some 0)), some (.inr (some 51)), some (.inl x)], [], g')) := by
  obtain ⟨q1, q2, q3, q4⟩ := op_between h (E.2 (x + (nI 1)).toNatClampNeg) (E.2 (x + (nI 2)).toNatClampNeg)
  exact ⟨_, q4, by rw [blk_L_law_456, if_pos i1, if_pos i2, if_pos q1, if_pos i1, if_pos i2, if_pos q2, if_pos q3]⟩
theorem lc_pairs {E : Ex} {g : Sg} {x : Int32} (h : Inw g) (i1 : inB (x + nI 1) E.1 = true) : ∃ g', Inw g' ∧ seg (T_L_law E ev_L_law) K_L_law 2000 489 [some (.inr (some 1000001)), some (.inr (some 0)), some (.inr (some 51)), some (.inl x)] [] g = some (.inr (897, [some (.inr (some 1000001)), some (.inr (some 0)), some (.inr (some 51)), some (.inl x)], [], g')) := by
  obtain ⟨q1, q2, q3, q4⟩ := op_pairs h (E.2 (x + (nI 1)).toNatClampNeg)
  exact ⟨_, q4, by rw [blk_L_law_489, if_pos i1, if_pos q1, if_pos i1, if_pos q2, if_pos q3]⟩
theorem lc_kinds {E : Ex} {g : Sg} {x : Int32} (h : Inw g) : ∃ g', Inw g' ∧ seg (T_L_law E ev_L_law) K_L_law 2000 512 [some (.inr (some 1000001)), some (.inr (some 0)), some (.inr (some 51)), some (.inl x)] [] g = some (.inr (897, [some (.inr (some 1000001)), some (.inr (some 0)), some (.inr (some 51)), some (.inl x)], [], g')) := by
  obtain ⟨q1, q2, q3, q4⟩ := op_kinds h 
  exact ⟨_, q4, by rw [blk_L_law_512, if_pos q1, if_pos q2, if_pos q3]⟩
theorem lc_broken {E : Ex} {g : Sg} {x : Int32} (h : Inw g) (i1 : inB (x + nI 1) E.1 = true) : ∃ g', Inw g' ∧ seg (T_L_law E ev_L_law) K_L_law 2000 525 [some (.inr (some 1000001)), some (.inr (some 0)), some (.inr (some 51)), some (.inl x)] [] g = some (.inr (897, [some (.inr (some 1000001)), some (.inr (some 0)), some (.inr (some 51)), some (.inl x)], [], g')) := by
  obtain ⟨q1, q2, q3, q4⟩ := op_broken h (E.2 (x + (nI 1)).toNatClampNeg)
  exact ⟨_, q4, by rw [blk_L_law_525, if_pos i1, if_pos q1, if_pos i1, if_pos q2, if_pos q3]⟩
theorem lc_breaker {E : Ex} {g : Sg} {x : Int32} (h : Inw g) (i1 : inB (x + nI 1) E.1 = true) (i2 : inB (x + nI 2) E.1 = true) (i3 : inB (x + nI 3) E.1 = true) : ∃ g', Inw g' ∧ seg (T_L_law E ev_L_law) K_L_law 2000 548 [some (.inr (some 1000001)), some (.inr (some 0)), some (.inr (some 51)), some (.inl x)] [] g = some (.inr (897, [some (.inr (some 1000001)), some (.inr (some 0)), some (.inr (some 51)), some (.inl x)], [], g')) := by
  obtain ⟨q1, q2, q3, q4⟩ := op_breaker h (E.2 (x + (nI 1)).toNatClampNeg) (E.2 (x + (nI 2)).toNatClampNeg) (E.2 (x + (nI 3)).toNatClampNeg)
  exact ⟨_, q4, by rw [blk_L_law_548, if_pos i1, if_pos i2, if_pos i3, if_pos q1, if_pos i1, if_pos i2, if_pos i3, if_pos q2, if_pos q3]⟩
theorem lc_laws {E : Ex} {g : Sg} {x : Int32} (h : Inw g) (i1 : inB (x + nI 1) E.1 = true) (i2 : inB (x + nI 2) E.1 = true) : ∃ g', Inw g' ∧ seg (T_L_law E ev_L_law) K_L_law 2000 591 [some (.inr (some 1000001)), some (.inr (some 0)), some (.inr (some 51)), some (.inl x)] [] g = some (.inr (897, [some (.inr (some 1000001)), some (.inr (some 0)), some (.inr (some 51)), some (.inl x)], [], g')) := by
  obtain ⟨q1, q2, q3, q4⟩ := op_laws h (E.2 (x + (nI 1)).toNatClampNeg) (E.2 (x + (nI 2)).toNatClampNeg)
  exact ⟨_, q4, by rw [blk_L_law_591, if_pos i1, if_pos i2, if_pos q1, if_pos i1, if_pos i2, if_pos q2, if_pos q3]⟩
theorem lc_law {E : Ex} {g : Sg} {x : Int32} (h : Inw g) (i1 : inB (x + nI 1) E.1 = true) (i2 : inB (x + nI 2) E.1 = true) (i3 : inB (x + nI 3) E.1 = true) : ∃ g', Inw g' ∧ seg (T_L_law E ev_L_law) K_L_law 2000 624 [some (.inr (some 1000001)), some (.inr (some 0)), some (.inr (some 51)), some (.inl x)] [] g = some (.inr (897, [some (.inr (some 1000001)), some (.inr (some 0)), some (.inr (some 51)), some (.inl x)], [], g')) := by
  obtain ⟨q1, q2, q3, q4⟩ := op_law h (E.2 (x + (nI 1)).toNatClampNeg) (E.2 (x + (nI 2)).toNatClampNeg) (E.2 (x + (nI 3)).toNatClampNeg)
  exact ⟨_, q4, by rw [blk_L_law_624, if_pos i1, if_pos i2, if_pos i3, if_pos q1, if_pos i1, if_pos i2, if_pos i3, if_pos q2, if_pos q3]⟩
theorem lc_sort {E : Ex} {g : Sg} {x : Int32} (h : Inw g) (i1 : inB (x + nI 1) E.1 = true) : ∃ g', Inw g' ∧ seg (T_L_law E ev_L_law) K_L_law 2000 667 [some (.inr (some 1000001)), some (.inr (some 0)), some (.inr (some 51)), some (.inl x)] [] g = some (.inr (897, [some (.inr (some 1000001)), some (.inr (some 0)), some (.inr (some 51)), some (.inl x)], [], g')) := by
  obtain ⟨q1, q2, q3, q4⟩ := op_sort h (E.2 (x + (nI 1)).toNatClampNeg)
  exact ⟨_, q4, by rw [blk_L_law_667, if_pos i1, if_pos q1, if_pos i1, if_pos q2, if_pos q3]⟩
theorem lc_least {E : Ex} {g : Sg} {x : Int32} (h : Inw g) (i1 : inB (x + nI 1) E.1 = true) : ∃ g', Inw g' ∧ seg (T_L_law E ev_L_law) K_L_law 2000 690 [some (.inr (some 1000001)), some (.inr (some 0)), some (.inr (some 51)), some (.inl x)] [] g = some (.inr (897, [some (.inr (some 1000001)), some (.inr (some 0)), some (.inr (some 51)), some (.inl x)], [], g')) := by
  obtain ⟨q1, q2, q3, q4⟩ := op_least h (E.2 (x + (nI 1)).toNatClampNeg)
  exact ⟨_, q4, by rw [blk_L_law_690, if_pos i1, if_pos q1, if_pos i1, if_pos q2, if_pos q3]⟩
theorem lc_said {E : Ex} {g : Sg} {x : Int32} (h : Inw g) (i1 : inB (x + nI 1) E.1 = true) (i2 : inB (x + nI 2) E.1 = true) : ∃ g', Inw g' ∧ seg (T_L_law E ev_L_law) K_L_law 2000 713 [some (.inr (some 1000001)), some (.inr (some 0)), some (.inr (some 51)), some (.inl x)] [] g = some (.inr (897, [some (.inr (some 1000001)), some (.inr (some 0)), some (.inr (some 51)), some (.inl x)], [], g')) := by
  obtain ⟨q1, q2, q3, q4⟩ := op_said h (E.2 (x + (nI 1)).toNatClampNeg) (E.2 (x + (nI 2)).toNatClampNeg)
  exact ⟨_, q4, by rw [blk_L_law_713, if_pos i1, if_pos i2, if_pos q1, if_pos i1, if_pos i2, if_pos q2, if_pos q3]⟩
theorem lc_settles {E : Ex} {g : Sg} {x : Int32} (h : Inw g) (i1 : inB (x + nI 1) E.1 = true) : ∃ g', Inw g' ∧ seg (T_L_law E ev_L_law) K_L_law 2000 746 [some (.inr (some 1000001)), some (.inr (some 0)), some (.inr (some 51)), some (.inl x)] [] g = some (.inr (897, [some (.inr (some 1000001)), some (.inr (some 0)), some (.inr (some 51)), some (.inl x)], [], g')) := by
  obtain ⟨q1, q2, q3, q4⟩ := op_settles h (E.2 (x + (nI 1)).toNatClampNeg)
  exact ⟨_, q4, by rw [blk_L_law_746, if_pos i1, if_pos q1, if_pos i1, if_pos q2, if_pos q3]⟩
theorem lc_keys {E : Ex} {g : Sg} {x : Int32} (h : Inw g) : ∃ g', Inw g' ∧ seg (T_L_law E ev_L_law) K_L_law 2000 769 [some (.inr (some 1000001)), some (.inr (some 0)), some (.inr (some 51)), some (.inl x)] [] g = some (.inr (897, [some (.inr (some 1000001)), some (.inr (some 0)), some (.inr (some 51)), some (.inl x)], [], g')) := by
  obtain ⟨q1, q2, q3, q4⟩ := op_keys h 
  exact ⟨_, q4, by rw [blk_L_law_769, if_pos q1, if_pos q2, if_pos q3]⟩
theorem lc_key {E : Ex} {g : Sg} {x : Int32} (h : Inw g) (i1 : inB (x + nI 1) E.1 = true) : ∃ g', Inw g' ∧ seg (T_L_law E ev_L_law) K_L_law 2000 782 [some (.inr (some 1000001)), some (.inr (some 0)), some (.inr (some 51)), some (.inl x)] [] g = some (.inr (897, [some (.inr (some 1000001)), some (.inr (some 0)), some (.inr (some 51)), some (.inl x)], [], g')) := by
  obtain ⟨q1, q2, q3, q4⟩ := op_key h (E.2 (x + (nI 1)).toNatClampNeg)
  exact ⟨_, q4, by rw [blk_L_law_782, if_pos i1, if_pos q1, if_pos i1, if_pos q2, if_pos q3]⟩
theorem lc_tell {E : Ex} {g : Sg} {x : Int32} (h : Inw g) (i1 : inB (x + nI 1) E.1 = true) (i2 : inB (x + nI 2) E.1 = true) : ∃ g', Inw g' ∧ seg (T_L_law E ev_L_law) K_L_law 2000 805 [some (.inr (some 1000001)), some (.inr (some 0)), some (.inr (some 51)), some (.inl x)] [] g = some (.inr (897, [some (.inr (some 1000001)), some (.inr (some 0)), some (.inr (some 51)), some (.inl x)], [], g')) := by
  obtain ⟨q1, q2, q3, q4⟩ := op_tell h (E.2 (x + (nI 1)).toNatClampNeg) (E.2 (x + (nI 2)).toNatClampNeg)
  exact ⟨_, q4, by rw [blk_L_law_805, if_pos i1, if_pos i2, if_pos q1, if_pos i1, if_pos i2, if_pos q2, if_pos q3]⟩
theorem lc_told {E : Ex} {g : Sg} {x : Int32} (h : Inw g) (i1 : inB (x + nI 1) E.1 = true) : ∃ g', Inw g' ∧ seg (T_L_law E ev_L_law) K_L_law 2000 838 [some (.inr (some 1000001)), some (.inr (some 0)), some (.inr (some 51)), some (.inl x)] [] g = some (.inr (897, [some (.inr (some 1000001)), some (.inr (some 0)), some (.inr (some 51)), some (.inl x)], [], g')) := by
  obtain ⟨q3, q4⟩ := op_told h (E.2 (x + (nI 1)).toNatClampNeg)
  exact ⟨_, q4, by rw [blk_L_law_838, if_pos i1, if_pos i1, if_pos q3]⟩
theorem lc_mend {E : Ex} {g : Sg} {x : Int32} (h : Inw g) (i1 : inB (x + nI 1) E.1 = true) : ∃ g', Inw g' ∧ seg (T_L_law E ev_L_law) K_L_law 2000 861 [some (.inr (some 1000001)), some (.inr (some 0)), some (.inr (some 51)), some (.inl x)] [] g = some (.inr (897, [some (.inr (some 1000001)), some (.inr (some 0)), some (.inr (some 51)), some (.inl x)], [], g')) := by
  obtain ⟨q1, q2, q3, q4⟩ := op_mend h (E.2 (x + (nI 1)).toNatClampNeg)
  exact ⟨_, q4, by rw [blk_L_law_861, if_pos i1, if_pos q1, if_pos i1, if_pos q2, if_pos q3]⟩
theorem lc_undo {E : Ex} {g : Sg} {x : Int32} (h : Inw g) : ∃ g', Inw g' ∧ seg (T_L_law E ev_L_law) K_L_law 2000 884 [some (.inr (some 1000001)), some (.inr (some 0)), some (.inr (some 51)), some (.inl x)] [] g = some (.inr (897, [some (.inr (some 1000001)), some (.inr (some 0)), some (.inr (some 51)), some (.inl x)], [], g')) := by
  obtain ⟨q1, q2, q3, q4⟩ := op_undo h 
  exact ⟨_, q4, by rw [blk_L_law_884, if_pos q1, if_pos q2, if_pos q3]⟩
theorem lw_lt {L n : Nat} (hL : L ≤ 4096) (hn : n ≤ 4096) : (Int32.ofNat L - nI 8 < nI n) ↔ L < n + 8 := by
  show nI L - nI 8 < nI n ↔ L < n + 8
  by_cases h : 8 ≤ L
  · have e : nI L - nI 8 = nI (L - 8) := by
      have e : nI L = nI (L - 8) + nI 8 := by rw [nI_add]; congr 1; omega
      rw [e, Int32.add_sub_cancel]
    rw [e, nI_ltI (by omega) (by omega)]
    omega
  · refine ⟨fun _ => by omega, fun _ => ?_⟩
    have h0 : ∀ j, j < 8 → nI j - nI 8 < 0 := by decide
    exact Int32.lt_of_lt_of_le (h0 L (by omega)) (Int32.not_lt.mp (nI_pos (by omega)))
theorem law_turn {E : Ex} {g : Sg} {n : Nat} (hE : E.1 ≤ 4096) (h : Inw g) (hn : n + 8 ≤ E.1) : ∃ g', Inw g' ∧ ∀ o, Rn (T_L_law E ev_L_law) K_L_law 18 [some (.inr (some 1000001)), some (.inr (some 0)), some (.inr (some 51)), some (.inl (nI (n + 8)))] [] g' o → Rn (T_L_law E ev_L_law) K_L_law 18 [some (.inr (some 1000001)), some (.inr (some 0)), some (.inr (some 51)), some (.inl (nI n))] [] g o := by
  have hi : ∀ j, j < 8 → inB (nI n + nI j) E.1 = true := fun j hj => by rw [nI_add]; exact inB_nI (by omega) (by omega)
  have h0 : inB (nI n) E.1 = true := inB_nI (by omega) (by omega)
  have hc : ¬ (Int32.ofNat E.1 - nI 8 < nI n) := fun q => by have := (lw_lt hE (by omega)).mp q; omega
  have fin1 : ∀ (pc : Nat) (g' : Sg), seg (T_L_law E ev_L_law) K_L_law 2000 pc [some (.inr (some 1000001)), some (.inr (some 0)), some (.inr (some 51)), some (.inl (nI n))] [] g = some (.inr (897, [some (.inr (some 1000001)), some (.inr (some 0)), some (.inr (some 51)), some (.inl (nI n))], [], g')) → ∀ o, Rn (T_L_law E ev_L_law) K_L_law 18 [some (.inr (some 1000001)), some (.inr (some 0)), some (.inr (some 51)), some (.inl (nI (n + 8)))] [] g' o → Rn (T_L_law E ev_L_law) K_L_law pc [some (.inr (some 1000001)), some (.inr (some 0)), some (.inr (some 51)), some (.inl (nI n))] [] g o := by
    intro pc g' hs o ho
    refine Rn_go hs (Rn_go (blk_L_law_897 E g' (nI n)) ?_)
    rw [nI_add]
    exact ho
  have key : ∀ (pc : Nat), seg (T_L_law E ev_L_law) K_L_law 2000 18 [some (.inr (some 1000001)), some (.inr (some 0)), some (.inr (some 51)), some (.inl (nI n))] [] g = some (.inr (pc, [some (.inr (some 1000001)), some (.inr (some 0)), some (.inr (some 51)), some (.inl (nI n))], [], g)) → (∃ g', Inw g' ∧ seg (T_L_law E ev_L_law) K_L_law 2000 pc [some (.inr (some 1000001)), some (.inr (some 0)), some (.inr (some 51)), some (.inl (nI n))] [] g = some (.inr (897, [some (.inr (some 1000001)), some (.inr (some 0)), some (.inr (some 51)), some (.inl (nI n))], [], g'))) → ∃ g', Inw g' ∧ ∀ o, Rn (T_L_law E ev_L_law) K_L_law 18 [some (.inr (some 1000001)), some (.inr (some 0)), some (.inr (some 51)), some (.inl (nI (n + 8)))] [] g' o → Rn (T_L_law E ev_L_law) K_L_law 18 [some (.inr (some 1000001)), some (.inr (some 0)), some (.inr (some 51)), some (.inl (nI n))] [] g o := by
    intro pc hs ⟨g', hg, hp⟩
    exact ⟨g', hg, fun o ho => Rn_go hs (fin1 pc g' hp o ho)⟩
  have hb := blk_L_law_18 E g (nI n)
  rw [if_neg hc, if_pos h0] at hb
  generalize ((E.2 (nI n).toNatClampNeg) &&& (nI 31)) = z at hb
  by_cases c0 : z = nI 0
  · rw [if_pos c0] at hb
    exact key _ hb (lc_table h (hi 1 (by decide)))
  rw [if_neg c0] at hb
  by_cases c1 : z = nI 1
  · rw [if_pos c1] at hb
    exact key _ hb (lc_put h (hi 1 (by decide)) (hi 2 (by decide)) (hi 3 (by decide)) (hi 4 (by decide)) (hi 5 (by decide)) (hi 6 (by decide)) (hi 7 (by decide)))
  rw [if_neg c1] at hb
  by_cases c2 : z = nI 2
  · rw [if_pos c2] at hb
    exact key _ hb (lc_change h (hi 1 (by decide)) (hi 2 (by decide)) (hi 3 (by decide)))
  rw [if_neg c2] at hb
  by_cases c3 : z = nI 3
  · rw [if_pos c3] at hb
    exact key _ hb (lc_strike h (hi 1 (by decide)))
  rw [if_neg c3] at hb
  by_cases c4 : z = nI 4
  · rw [if_pos c4] at hb
    exact key _ hb (lc_price h (hi 1 (by decide)) (hi 2 (by decide)))
  rw [if_neg c4] at hb
  by_cases c5 : z = nI 5
  · rw [if_pos c5] at hb
    exact key _ hb (lc_swap h (hi 1 (by decide)) (hi 2 (by decide)))
  rw [if_neg c5] at hb
  by_cases c6 : z = nI 6
  · rw [if_pos c6] at hb
    exact key _ hb (lc_at h (hi 1 (by decide)) (hi 2 (by decide)))
  rw [if_neg c6] at hb
  by_cases c7 : z = nI 7
  · rw [if_pos c7] at hb
    exact key _ hb (lc_row h (hi 1 (by decide)) (hi 2 (by decide)))
  rw [if_neg c7] at hb
  by_cases c8 : z = nI 8
  · rw [if_pos c8] at hb
    exact key _ hb (lc_between h (hi 1 (by decide)) (hi 2 (by decide)))
  rw [if_neg c8] at hb
  by_cases c9 : z = nI 9
  · rw [if_pos c9] at hb
    exact key _ hb (lc_pairs h (hi 1 (by decide)))
  rw [if_neg c9] at hb
  by_cases c10 : z = nI 10
  · rw [if_pos c10] at hb
    exact key _ hb (lc_kinds h)
  rw [if_neg c10] at hb
  by_cases c11 : z = nI 11
  · rw [if_pos c11] at hb
    exact key _ hb (lc_broken h (hi 1 (by decide)))
  rw [if_neg c11] at hb
  by_cases c12 : z = nI 12
  · rw [if_pos c12] at hb
    exact key _ hb (lc_breaker h (hi 1 (by decide)) (hi 2 (by decide)) (hi 3 (by decide)))
  rw [if_neg c12] at hb
  by_cases c13 : z = nI 13
  · rw [if_pos c13] at hb
    exact key _ hb (lc_laws h (hi 1 (by decide)) (hi 2 (by decide)))
  rw [if_neg c13] at hb
  by_cases c14 : z = nI 14
  · rw [if_pos c14] at hb
    exact key _ hb (lc_law h (hi 1 (by decide)) (hi 2 (by decide)) (hi 3 (by decide)))
  rw [if_neg c14] at hb
  by_cases c15 : z = nI 15
  · rw [if_pos c15] at hb
    exact key _ hb (lc_sort h (hi 1 (by decide)))
  rw [if_neg c15] at hb
  by_cases c16 : z = nI 16
  · rw [if_pos c16] at hb
    exact key _ hb (lc_least h (hi 1 (by decide)))
  rw [if_neg c16] at hb
  by_cases c17 : z = nI 17
  · rw [if_pos c17] at hb
    exact key _ hb (lc_said h (hi 1 (by decide)) (hi 2 (by decide)))
  rw [if_neg c17] at hb
  by_cases c18 : z = nI 18
  · rw [if_pos c18] at hb
    exact key _ hb (lc_settles h (hi 1 (by decide)))
  rw [if_neg c18] at hb
  by_cases c19 : z = nI 19
  · rw [if_pos c19] at hb
    exact key _ hb (lc_keys h)
  rw [if_neg c19] at hb
  by_cases c20 : z = nI 20
  · rw [if_pos c20] at hb
    exact key _ hb (lc_key h (hi 1 (by decide)))
  rw [if_neg c20] at hb
  by_cases c21 : z = nI 21
  · rw [if_pos c21] at hb
    exact key _ hb (lc_tell h (hi 1 (by decide)) (hi 2 (by decide)))
  rw [if_neg c21] at hb
  by_cases c22 : z = nI 22
  · rw [if_pos c22] at hb
    exact key _ hb (lc_told h (hi 1 (by decide)))
  rw [if_neg c22] at hb
  by_cases c23 : z = nI 23
  · rw [if_pos c23] at hb
    exact key _ hb (lc_mend h (hi 1 (by decide)))
  rw [if_neg c23] at hb
  by_cases c24 : z = nI 24
  · rw [if_pos c24] at hb
    exact key _ hb (lc_undo h)
  rw [if_neg c24] at hb
  refine ⟨g, h, fun o ho => Rn_go hb (Rn_go (blk_L_law_897 E g (nI n)) ?_)⟩
  rw [nI_add]
  exact ho
theorem law_runs {E : Ex} (hE : E.1 ≤ 4096) : ∀ (k n : Nat) (g : Sg), Inw g → n ≤ 4096 → E.1 ≤ n + k → ∃ g', Rn (T_L_law E ev_L_law) K_L_law 18 [some (.inr (some 1000001)), some (.inr (some 0)), some (.inr (some 51)), some (.inl (nI n))] [] g (some (.inl (nI 1)), g')
  | 0, n, g, h, hn, hk => by
    have hb := blk_L_law_18 E g (nI n)
    rw [if_pos ((lw_lt hE hn).mpr (by omega))] at hb
    exact ⟨g, Rn_ret hb⟩
  | k + 1, n, g, h, hn, hk => by
    by_cases q : n + 8 ≤ E.1
    · obtain ⟨g1, h1, r1⟩ := law_turn hE h q
      obtain ⟨g2, r2⟩ := law_runs hE k (n + 8) g1 h1 (by omega) (by omega)
      exact ⟨g2, r1 _ r2⟩
    · have hb := blk_L_law_18 E g (nI n)
      rw [if_pos ((lw_lt hE hn).mpr (by omega))] at hb
      exact ⟨g, Rn_ret hb⟩
theorem run_L_law {E : Ex} {g : Sg} (hE : E.1 ≤ 4096) (h : Inw g) : ∃ g', Rn (T_L_law E ev_L_law) K_L_law 16 [some (.inr (some 1000001)), some (.inr (some 0)), some (.inr (some 51))] [] g (some (.inl (nI 1)), g') := by
  obtain ⟨g', r⟩ := law_runs hE 4096 0 g h (by decide) (by omega)
  exact ⟨g', Rn_go (blk_L_law_16 E g) r⟩
