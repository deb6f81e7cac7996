/-! THE WHOLE -/
def R_law : String := "LawFinderLaw"
def lw_P (b : Addr) (xs : List Int32) (args : Array Value) (s : State) : Prop := args = #[.ref b] ∧ s.IntsAt b xs ∧ xs.length ≤ 4096 ∧ (Jvm.Cond.and given_1 narrow_1).before args s = true
def lw_Q (_ : Array Value) (s : State) (o : Outcome) (t : State) : Prop := o = .returned (some (.int 1)) ∧ Framed s o t [] 600000 7302250
def lw_Z (below : List Frame) (a : Array Value) (s : State) : State → Prop := fun t => ∃ o, t.status = .running ∧ Ended t below o ∧ lw_Q a s o t
/-- the law's own end, with 1 on the stack, nothing written that was there before, its room as the claim has it -/
theorem lw_ret {p : Program} {l : Launch} {e : Env} {s : State} {m : MethodId} {below : List Frame} {meth : Method} {c : Code} {b : Nat} (hx : p.tables.exec = Jvm.exec) (hb : c.code = code) (hr : meth.sig.returnType = ret) (hlocks : meth.locks = false) {pc : Nat} {H : Heap} {ls : Array Slot} (hdg : decode code pc = .ok (.ireturn, 1)) : W p l e room_1 s m #[Value.ref b] below meth c H [] 600000 7302250 (lw_Z below #[Value.ref b] s) (F0 m pc ls [.int 1]) := by
  intro T hT X
  obtain ⟨fs, hret, hrun, hended, hW, hframe⟩ := X.leave (v := some (.int 1)) (hlocks := hlocks) (fun h => by rw [hr] at h; cases h)
  have hmeth' : T.vm.method? m = some meth := X.method'
  refine ⟨T.setFrames fs, ?_, .returned (some (.int 1)), hrun, hended, rfl, ⟨_, rfl⟩, hW, hframe⟩
  jvm_step X.here [X.here.top, hx, hb, hdg, hmeth', hr, ret, narrow_b1]
  (try refine ⟨rfl, ?_⟩); (try refine ⟨rfl, ?_⟩)
  first | (intro acts; rw [hret _ acts rfl rfl rfl]) | rw [hret _ _ rfl rfl rfl]
  exact Steps.refl _
/-- what holds at the law's entry: the machine, the code, the tables' words (any of lw_tbl by 'hts w (by decide +kernel)'), the script of L ints xs at the cell b, what the Statement gives of the start (any of its parts by flat_of_before) -/
def lw_At (p : Program) (s : State) (m : MethodId) (meth : Method) (c : Code) (b L : Nat) (xs : Nat → Int32) : Prop :=
  p.tables.exec = Jvm.exec ∧ c.code = code ∧ meth.sig.returnType = ret ∧ c.maxLocals = 4 ∧ s.vm.findClass R_law = some m.cls ∧ (∀ w ∈ lw_tbl, w.before #[Value.ref b] s = true) ∧ va_X b L xs s s.heap ∧ b < s.heap.size ∧ meth.locks = false ∧ (Jvm.Cond.and given_1 narrow_1).before #[Value.ref b] s = true
def g0 : Sg := fun k => match Nat.beq k 52 with
  | true => upd fZ 128 4
  | false => match Nat.beq k 1 || Nat.beq k 9 || Nat.beq k 15 || Nat.beq k 21 || Nat.beq k 27 || Nat.beq k 33 || Nat.beq k 39 with
    | true => fun _ => 4
    | false => match Nat.beq k 2 || Nat.beq k 10 || Nat.beq k 16 || Nat.beq k 22 || Nat.beq k 28 || Nat.beq k 34 || Nat.beq k 40 with
      | true => filF fZ 16 (-1)
      | false => fZ
def cWk (ad : Nat → Nat) (C : CI3) (g : Sg) : Nat → Shp → va_W
  | _, [] => []
  | k, c :: t => (ad k, cE ad C (g k) c) :: cWk ad C g (k + 1) t
theorem cWk_eq (ad : Nat → Nat) (C : CI3) (g : Sg) : ∀ (sh : Shp) (n : Nat), sh.mapIdx (fun k c => (ad (k + n), cE ad C (g (k + n)) c)) = cWk ad C g n sh
  | [], n => by simp [cWk]
  | c :: t, n => by
    have e : (fun (i : Nat) (c : Cl) => (ad (i + 1 + n), cE ad C (g (i + 1 + n)) c)) = fun k c => (ad (k + (n + 1)), cE ad C (g (k + (n + 1))) c) := by
      funext i c
      rw [show i + 1 + n = i + (n + 1) by omega]
    rw [List.mapIdx_cons, e, cWk_eq ad C g t (n + 1), Nat.zero_add]
    rfl
theorem cW_k (ad : Nat → Nat) (C : CI3) (sh : Shp) (g : Sg) : cW ad C sh g = cWk ad C g 0 sh := cWk_eq ad C g sh 0
theorem inw0 : Inw g0 := by
  have m0 : ∀ i, ¬ i = 128 → g0 52 i = 0 := fun i hi => by
    show upd fZ 128 4 i = 0
    rw [pk_un hi]
    rfl
  have m1 : g0 52 128 = 4 := by
    show upd fZ 128 4 128 = 4
    rw [pk_us]
  have no : ∀ s, s < 16 → ¬ g0 52 (8 * s) = 1 := fun s hs => by
    rw [m0 _ (by omega)]
    decide
  refine ⟨⟨⟨4, by decide, by decide, rfl⟩, m1, fun s hs => by rw [m0 _ (by omega)]; rfl, fun s hs => ⟨fun _ => no s hs, fun _ => ?_⟩, fun s hs q => absurd q (no s hs), fun s hs q => absurd q (no s hs), fun s hs q => absurd q (no s hs), fun s hs q => absurd q (no s hs), fun i hi => ?_⟩, ⟨0, 0, by decide, by decide, rfl, rfl, rfl, fun j hj => absurd hj (by omega)⟩, fun q => absurd rfl q, fun q => absurd rfl q⟩
  · show filF fZ 16 (-1) s = -1
    unfold filF
    rw [if_pos hs]
  · rw [m0 (129 + i) (by omega), m1]
    exact ⟨rfl, by decide⟩
theorem rg_ad (ad : Nat → Nat) : rgF (fun k => ad (7 + k)) = fun j => (rfAt [some 9, some 15, some 21, some 27, some 33, some 39] j).map ad := by
  funext j
  match j with
  | 0 => rfl
  | 1 => rfl
  | 2 => rfl
  | 3 => rfl
  | 4 => rfl
  | 5 => rfl
  | n + 6 => rfl
set_option maxRecDepth 100000 in
theorem cw0 (C : CI3) (ad : Nat → Nat) : cW ad C SH g0 = wLF C ad ++ wMod C (fun k => ad (51 + k)) := by
  rw [cW_k]
  unfold wLF wHist
  rw [rg_ad]
  rfl
theorem wlf_eq {C : CI3} {q ad : Nat → Nat} (h : ∀ k, k < 51 → ad k = q k) : wLF C ad = wLF C q := by
  have e : rgF (fun k => ad (7 + k)) = rgF (fun k => q (7 + k)) := by
    funext j
    match j with
    | 0 => exact congrArg some (h 9 (by decide))
    | 1 => exact congrArg some (h 15 (by decide))
    | 2 => exact congrArg some (h 21 (by decide))
    | 3 => exact congrArg some (h 27 (by decide))
    | 4 => exact congrArg some (h 33 (by decide))
    | 5 => exact congrArg some (h 39 (by decide))
    | n + 6 => rfl
  unfold wLF wHist wSheet wTal wMen
  rw [e]
  simp (disch := decide) only [h, Nat.reduceAdd]
theorem wmod_eq {C : CI3} {q ad : Nat → Nat} (h : ∀ k, k < 7 → ad k = q k) : wMod C ad = wMod C q := by
  unfold wMod
  simp (disch := decide) only [h]
set_option maxHeartbeats 4000000 in
set_option maxRecDepth 100000 in
theorem whole_start {p : Program} {e : Env} {s : State} {m : MethodId} {below : List Frame} {meth : Method} {c : Code} (l : Launch) {b L : Nat} {xs : Nat → Int32} (hL : L ≤ 4096) (C0 : lw_At p s m meth c b L xs) : W p l e room_1 s m #[Value.ref b] below meth c s.heap [] 0 0 (lw_Z below #[Value.ref b] s) (entryFrame m ([Value.ref b] : List Value).toArray 4) := by
  obtain ⟨hx, hb, hr, hml, hown, hts, hX, hbl, hlocks, hgv⟩ := id C0
  have hTB : ∀ w ∈ TB, w.before #[Value.ref b] s = true := fun w hw => hts w (List.mem_filter.mp hw).1
  have hNW : ∀ w ∈ NW, va_Nw w s := by
    intro w hw
    simp only [NW, List.mem_cons, List.not_mem_nil, or_false] at hw
    rcases hw with h | h | h | h | h | h | h | h | h | h | h <;> subst h
    · exact va_Nw.of rfl (hts _ (List.mem_of_getElem? (i := 106) rfl))
    · exact va_Nw.of rfl (hts _ (List.mem_of_getElem? (i := 121) rfl))
    · exact va_Nw.of rfl (hts _ (List.mem_of_getElem? (i := 210) rfl))
    · exact va_Nw.of rfl (hts _ (List.mem_of_getElem? (i := 260) rfl))
    · exact va_Nw.of rfl (hts _ (List.mem_of_getElem? (i := 293) rfl))
    · exact va_Nw.of rfl (hts _ (List.mem_of_getElem? (i := 298) rfl))
    · exact va_Nw.of rfl (hts _ (List.mem_of_getElem? (i := 303) rfl))
    · exact va_Nw.of rfl (hts _ (List.mem_of_getElem? (i := 327) rfl))
    · exact va_Nw.of rfl (hts _ (List.mem_of_getElem? (i := 330) rfl))
    · exact va_Nw.of rfl (hts _ (List.mem_of_getElem? (i := 342) rfl))
    · exact va_Nw.of rfl (hts _ (List.mem_of_getElem? (i := 381) rfl))
  have hO : va_AO RX2 s := va_AO.of (hts (.arrayOver (.object RX2)) (List.mem_of_getElem? (i := 92) rfl))
  obtain ⟨c0, iS0, hKn0⟩ := u_known (C := RX0) (T := TX0) (N := 3) (n := 3) hTB inTX0 (hTB (.instantiable RX0 3) kt_in_RX0)
  obtain ⟨c1, iS1, hKn1⟩ := u_known (C := RX1) (T := TX1) (N := 4) (n := 4) hTB inTX1 (hTB (.instantiable RX1 4) kt_in_RX1)
  obtain ⟨c2, iS2, hKn2⟩ := u_known (C := RX2) (T := TX2) (N := 6) (n := 6) hTB inTX2 (hTB (.instantiable RX2 6) kt_in_RX2)
  obtain ⟨c3, iS3, hKn3⟩ := u_known (C := RX3) (T := TX3) (N := 2) (n := 2) hTB inTX3 (hTB (.instantiable RX3 2) kt_in_RX3)
  obtain ⟨c4, iS4, hKn4⟩ := u_known (C := RX4) (T := TX4) (N := 6) (n := 6) hTB inTX4 (hTB (.instantiable RX4 6) kt_in_RX4)
  obtain ⟨c5, iS5, hKn5⟩ := u_known (C := RX5) (T := TX5) (N := 8) (n := 8) hTB inTX5 (hTB (.instantiable RX5 8) kt_in_RX5)
  obtain ⟨dC, dI, hKc⟩ : ∃ (dC : Nat → ClassId) (dI : Nat → Nat → Nat), ∀ (k : Nat) (q : vw_C), vwCl[k]? = some q → u_Kn s q.1 q.2.1 q.2.2 (dC k) (dI k) := by
    refine ⟨fun k => if k = 0 then c0 else if k = 1 then c1 else if k = 2 then c2 else if k = 3 then c3 else if k = 4 then c4 else c5, fun k => if k = 0 then iS0 else if k = 1 then iS1 else if k = 2 then iS2 else if k = 3 then iS3 else if k = 4 then iS4 else iS5, ?_⟩
    intro k q hq
    match k, hq with
    | 0, hq => cases hq; exact hKn0
    | 1, hq => cases hq; exact hKn1
    | 2, hq => cases hq; exact hKn2
    | 3, hq => cases hq; exact hKn3
    | 4, hq => cases hq; exact hKn4
    | 5, hq => cases hq; exact hKn5
    | k + 6, hq => simp [vwCl] at hq
  obtain ⟨cI, kI, oI, i1, i2, i3⟩ := Cond.arrayClass_spec (hTB _ kt_arr_int)
  obtain ⟨cZ, kZ, oZ, z1, z2, z3⟩ := Cond.arrayClass_spec (hTB _ kt_arr_boolean)
  obtain ⟨oR, cR, kR, r1, r2, r3, r4, r5⟩ := Cond.arrayOver_spec (va_AO.use (A := #[]) hO)
  have hK : va_K (dC, dI) vwCl (tyl (cI, cZ, cR)) s := by
    refine ⟨hKc, fun k q hk => ?_⟩
    match k, hk with
    | 0, hk => cases hk; exact ⟨fun n z => ⟨fun k h => (by cases h), kI, i2, oI, i3⟩, i1⟩
    | 1, hk => cases hk; exact ⟨fun n z => ⟨fun k h => (by cases h), kZ, z2, oZ, z3⟩, z1⟩
    | 2, hk => cases hk; exact ⟨fun n z => ⟨fun k h => (by cases h), kR, r3, oR, r4⟩, kR, oR, r3, r4, r1, r5⟩
    | k + 3, hk => simp [tyl] at hk
  generalize hCe : ((cI, cZ, cR) : CI3) = C at hK
  have hs := flat_of_before _ hgv
  have hAn : ∀ a : Nat, a < s.heap.size → ¬ (fun q : Nat => s.heap.size ≤ q) a := fun a h h1 => absurd h1 (Nat.not_le.mpr h)
  have he : ∀ j : Nat, j < 5 → (Term.elem (.static "LawFinder" "FIVES" "[I") (.int (Int32.ofNat j))).eval #[Value.ref b] s none [] s = some (.int (fiv j)) := by
    intro j hj
    rcases (show j = 0 ∨ j = 1 ∨ j = 2 ∨ j = 3 ∨ j = 4 by omega) with rfl | rfl | rfl | rfl | rfl
    · exact va_eqt (hs (.eq (.elem (.static "LawFinder" "FIVES" "[I") (.int 0)) (.int 1)) (by decide +kernel))
    · exact va_eqt (hs (.eq (.elem (.static "LawFinder" "FIVES" "[I") (.int 1)) (.int 5)) (by decide +kernel))
    · exact va_eqt (hs (.eq (.elem (.static "LawFinder" "FIVES" "[I") (.int 2)) (.int 25)) (by decide +kernel))
    · exact va_eqt (hs (.eq (.elem (.static "LawFinder" "FIVES" "[I") (.int 3)) (.int 125)) (by decide +kernel))
    · exact va_eqt (hs (.eq (.elem (.static "LawFinder" "FIVES" "[I") (.int 4)) (.int 625)) (by decide +kernel))
  obtain ⟨t5, ht5, hT5⟩ := va_Tof (tm := .static "LawFinder" "FIVES" "[I") (ty := .int) (N := 5) (f := fun j => .int (fiv j)) (A := fun q : Nat => s.heap.size ≤ q) (by decide) (hs (.arrayOf (.static "LawFinder" "FIVES" "[I") .int) (by decide +kernel)) (va_eqt (hs (.eq (.length (.static "LawFinder" "FIVES" "[I")) (.int 5)) (by decide +kernel))) he hAn
  have hZ : va_Z RX4 "FIVES" "[I" (.ref t5) (fun q : Nat => s.heap.size ≤ q) s s.heap := va_Zref (hts (.laysStatic "LawFinder" "FIVES" "[I") (List.mem_of_getElem? (i := 261) rfl)) (hTB _ kt_ii_RX4) ht5 hAn
  have hTx : va_T .int b L (fun j => .int (xs j)) (fun q : Nat => s.heap.size ≤ q) s s.heap := by
    obtain ⟨scr, e1, e2, e3, e4, e5⟩ := hX
    exact ⟨scr, e1, e2, e3, Nat.le_of_eq e4.symm, congrArg Nat.toInt32 e4, e5, hAn b hbl⟩
  have X : Bx p s m #[Value.ref b] c cL_law 4 RL (dC, dI) C (fun q : Nat => s.heap.size ≤ q) := ⟨hx, hb, hml, hown, hTB, hNW, hK, hO, fun _ h => h⟩
  have hS : va_S (fun q : Nat => s.heap.size ≤ q) s.heap s.heap [] := va_S.rf
  have hP : va_P (dC, dI) vwCl [] s.heap := fun k q h => by simp at h
  have hD : va_D (fun q : Nat => s.heap.size ≤ q) [] := ⟨fun i j p q h => by simp at h, fun k q h => by simp at h⟩
  have hl := lv_entry ([.ref b]) (n := 4) (Nat.le_of_ble_eq_true rfl)
  rw [lg_entry_eq]
  generalize (lg_sl ([.ref b]) ++ List.replicate (4 - (lg_sl ([.ref b])).length) Slot.unset).toArray = ls at hl ⊢
  have hl : lv_has ls 4 [(0, .ref b)] := hl
  refine bw_new X (ci := 4) (CN := RX4) (T := TX4) (N := 6) (mc := 50) (ms := 2151) (fs := [.null, .null, .null, .null, .int 0, .int 0]) (wf := wLF) inTX4 tyX4 tyX4_ok kt_cl_RL_7 kt_in_RX4 kt_ii_RX4 rfl (fun j hj => by rcases (show j = 0 ∨ j = 1 ∨ j = 2 ∨ j = 3 ∨ j = 4 ∨ j = 5 by omega) with rfl | rfl | rfl | rfl | rfl | rfl <;> rfl) dL_law_0 dL_law_3 ⟨Nat.le_of_ble_eq_true rfl, Nat.le_of_ble_eq_true rfl⟩ hP hD hS (fun q H' hp => bw_runI X (nc_lf l) kt_co_yX4_init kt_ii_RX4 kt_ml_RL_9 kt_im_yX4_init rfl (by decide +kernel) ⟨Nat.le_of_ble_eq_true rfl, Nat.le_of_ble_eq_true rfl⟩ (Nat.le_of_ble_eq_true rfl) hl.1 dL_law_4 ⟨Nat.le_of_ble_eq_true rfl, Nat.le_of_ble_eq_true rfl⟩ hp) (fun qa H locs hP hD hS => ?_)
  refine lv_astore_n (lv' := [(1, .ref (qa 0)), (0, .ref b)]) hx hb dL_law_7 rfl hl (by decide) rfl (fun ls hl => ?_)
  refine bw_new X (ci := 5) (CN := RX5) (T := TX5) (N := 8) (mc := 6) (ms := 2822) (fs := [.null, .null, .int 0, .null, .null, .null, .int 0, .null]) (wf := wMod) inTX5 tyX5 tyX5_ok kt_cl_RL_10 kt_in_RX5 kt_ii_RX5 rfl (fun j hj => by rcases (show j = 0 ∨ j = 1 ∨ j = 2 ∨ j = 3 ∨ j = 4 ∨ j = 5 ∨ j = 6 ∨ j = 7 by omega) with rfl | rfl | rfl | rfl | rfl | rfl | rfl | rfl <;> rfl) dL_law_8 dL_law_11 ⟨Nat.le_of_ble_eq_true rfl, Nat.le_of_ble_eq_true rfl⟩ hP hD hS (fun q H' hp => bw_runI X (nc_mod l) kt_co_yX5_init kt_ii_RX5 kt_ml_RL_12 kt_im_yX5_init rfl (by decide +kernel) ⟨Nat.le_of_ble_eq_true rfl, Nat.le_of_ble_eq_true rfl⟩ (Nat.le_of_ble_eq_true rfl) hl.1 dL_law_12 ⟨Nat.le_of_ble_eq_true rfl, Nat.le_of_ble_eq_true rfl⟩ hp) (fun qb H locs hP hD hS => ?_)
  refine lv_astore_n (lv' := [(2, .ref (qb 0)), (1, .ref (qa 0)), (0, .ref b)]) hx hb dL_law_15 rfl hl (by decide) rfl (fun ls hl => ?_)
  refine W.widen (k := 58) (n := 4987) (Nat.le_of_ble_eq_true rfl) (Nat.le_of_ble_eq_true rfl) ?_
  obtain ⟨ad, had⟩ : ∃ ad : Nat → Nat, ad = fun k => if k = 1000000 then t5 else if k = 1000001 then b else if k < 51 then qa k else qb (k - 51) := ⟨_, rfl⟩
  have a5 : ad 1000000 = t5 := by rw [had]; rfl
  have ab : ad 1000001 = b := by rw [had]; rfl
  have aa : ∀ k, k < 51 → ad k = qa k := fun k hk => by
    rw [had]
    dsimp only
    rw [if_neg (by omega), if_neg (by omega), if_pos hk]
  have am : ∀ k, k < 7 → ad (51 + k) = qb k := fun k hk => by
    rw [had]
    dsimp only
    rw [if_neg (by omega), if_neg (by omega), if_neg (by omega), Nat.add_sub_cancel_left]
  have ew : [] ++ wLF C qa ++ wMod C qb = cW ad C SH g0 := by
    rw [cw0, wlf_eq aa, wmod_eq am]
    rfl
  rw [ew] at hP hD
  have Xc : Cx p room_1 s m #[Value.ref b] c cL_law 4 RL (dC, dI) C (fun q : Nat => s.heap.size ≤ q) ad SH (L, xs) := ⟨hx, hb, hml, hown, hTB, hNW, hK, fun _ h => h, fun g => cW_D (g := g0) hD, by rw [a5]; exact hZ, by rw [a5]; exact hT5, by rw [ab]; exact hTx⟩
  obtain ⟨g', n, hn⟩ := run_L_law (E := (L, xs)) (g := g0) hL inw0
  have hLH : LH ad 4 ls [some (.inr (some 1000001)), some (.inr (some 0)), some (.inr (some 51))] := by
    refine ⟨hl.1, hl.2.1, fun i v hv => ?_⟩
    match i, hv with
    | 0, hv => cases hv; show ls[0]? = some (.val (.ref (ad 1000001))); rw [ab]; exact lv_at hl 2 rfl
    | 1, hv => cases hv; show ls[1]? = some (.val (.ref (ad 0))); rw [aa 0 (by decide)]; exact lv_at hl 1 rfl
    | 2, hv => cases hv; show ls[2]? = some (.val (.ref (ad (51 + 0)))); rw [am 0 (by decide)]; exact lv_at hl 0 rfl
    | i + 3, hv => simp [nth] at hv
  refine rn_ok (T := T_L_law (L, xs) ev_L_law) (K := K_L_law) (rt := some .boolean) (nL := 4) (cc := cL_law) (ts_L_law (d := 23) Xc ⟨Nat.le_of_ble_eq_true rfl, Nat.le_of_ble_eq_true rfl⟩ ⟨Nat.le_of_ble_eq_true rfl, Nat.le_of_ble_eq_true rfl⟩ (cm_X4_table l (L, xs)) (by decide) (cm_X5_table l (L, xs)) (by decide) (cm_X4_put l (L, xs)) (by decide) (cm_X5_put l (L, xs)) (by decide) (cm_X4_change l (L, xs)) (by decide) (cm_X5_change l (L, xs)) (by decide) (cm_X4_strike l (L, xs)) (by decide) (cm_X5_strike l (L, xs)) (by decide) (cm_X4_price l (L, xs)) (by decide) (cm_X5_price l (L, xs)) (by decide) (cm_X4_swap l (L, xs)) (by decide) (cm_X5_swap l (L, xs)) (by decide) (cm_X4_at l (L, xs)) (by decide) (cm_X5_at l (L, xs)) (by decide) (cm_X4_row l (L, xs)) (by decide) (cm_X5_row l (L, xs)) (by decide) (cm_X4_between l (L, xs)) (by decide) (cm_X5_between l (L, xs)) (by decide) (cm_X4_pairs l (L, xs)) (by decide) (cm_X5_pairs l (L, xs)) (by decide) (cm_X4_kinds l (L, xs)) (by decide) (cm_X5_kinds l (L, xs)) (by decide) (cm_X4_broken l (L, xs)) (by decide) (cm_X5_broken l (L, xs)) (by decide) (cm_X4_breaker l (L, xs)) (by decide) (cm_X5_breaker l (L, xs)) (by decide) (cm_X4_laws l (L, xs)) (by decide) (cm_X5_laws l (L, xs)) (by decide) (cm_X4_law l (L, xs)) (by decide) (cm_X5_law l (L, xs)) (by decide) (cm_X4_sort l (L, xs)) (by decide) (cm_X5_sort l (L, xs)) (by decide) (cm_X4_least l (L, xs)) (by decide) (cm_X5_least l (L, xs)) (by decide) (cm_X4_said l (L, xs)) (by decide) (cm_X5_said l (L, xs)) (by decide) (cm_X4_settles l (L, xs)) (by decide) (cm_X5_settles l (L, xs)) (by decide) (cm_X4_keys l (L, xs)) (by decide) (cm_X5_keys l (L, xs)) (by decide) (cm_X4_key l (L, xs)) (by decide) (cm_X5_key l (L, xs)) (by decide) (cm_X4_tell l (L, xs)) (by decide) (cm_X5_tell l (L, xs)) (by decide) (cm_X4_told l (L, xs)) (by decide) (cm_X5_told l (L, xs)) (by decide) (cm_X4_mend l (L, xs)) (by decide) (cm_X5_mend l (L, xs)) (by decide) (cm_X4_undo l (L, xs)) (by decide) (cm_X5_undo l (L, xs)) (by decide)) ?_ n 16 _ [] g0 hn H locs ls hP hS hLH
  intro pc H locs ls h1 h2 hP hS
  obtain ⟨hdg, -, -⟩ := h2 _ rfl
  refine va_forget hS.2.2 ?_
  refine W.widen (k := 600000) (n := 7302250) (Nat.le_of_ble_eq_true rfl) (Nat.le_of_ble_eq_true rfl) ?_
  exact lw_ret hx hb hr hlocks hdg
