/-! CALLS, AND A METHOD'S CONTRACT OUT OF ITS RUN -/
def o_callV (sh : Shp) (env : Nat → Mf) (nx j n ci : Nat) : Stq := fun go L st g => match pk (n + 1) [] st with
  | some (as, r) => (match Nat.ble r.length 8 with
    | true => (match as with
      | .inr (some q) :: _ => (match shAt sh q with
        | some (3, ci', _) => if ci' = ci then (if (env j).1 as g = true then go nx L (((env j).2 as g).1.toList ++ r) ((env j).2 as g).2 else none) else none
        | _ => none)
      | _ => none)
    | false => none)
  | none => none
def minI (x y : Int32) : Int32 := if x ≤ y then x else y
def maxI (x y : Int32) : Int32 := if y ≤ x then x else y
def o_mm (nx : Nat) (h : Int32 → Int32 → Int32) : Stq := fun go L st g => match st with
  | .inl y :: .inl x :: r => (match Nat.ble r.length 8 with
    | true => go nx L (.inl (h x y) :: r) g
    | false => none)
  | _ => none
theorem minI_eq (x y : Int32) : (if y < x then y else x) = minI x y := by
  unfold minI
  by_cases h : y < x
  · rw [if_pos h, if_neg (Int32.not_le.mpr h)]
  · rw [if_neg h, if_pos (Int32.not_lt.mp h)]
theorem maxI_eq (x y : Int32) : (if x < y then y else x) = maxI x y := by
  unfold maxI
  by_cases h : x < y
  · rw [if_pos h, if_neg (Int32.not_le.mpr h)]
  · rw [if_neg h, if_pos (Int32.not_lt.mp h)]
def mws (y : MethodName) (b : ByteArray) (n : Nat) (r : Option FieldType) : List Cond := .code y b n r :: TB
def rmd (d : Nat) : Room := { frames := d, cells := 0, slots := 0, locals := 100 * d }
def PreW (D : va_G) (C : CI3) (ad : Nat → Nat) (sh : Shp) (E : Ex) (g : Sg) (sz : Nat) (U : State) : Prop :=
  U.heap.size = sz ∧ va_P D vwCl (cW ad C sh g) U.heap ∧ va_D (fun _ => True) (cW ad C sh g) ∧ va_K D vwCl (tyl C) U ∧ (∀ w ∈ NW, va_Nw w U) ∧ va_Z RX4 "FIVES" "[I" (.ref (ad 1000000)) (va_A (cW ad C sh g) sz) U U.heap ∧ va_T .int (ad 1000000) 5 (fun j => .int (fiv j)) (va_A (cW ad C sh g) sz) U U.heap ∧ va_T .int (ad 1000001) E.1 (fun j => .int (E.2 j)) (va_A (cW ad C sh g) sz) U U.heap
def QW (D : va_G) (C : CI3) (ad : Nat → Nat) (sh : Shp) (g : Sg) (sz : Nat) (r : Option AV) (g' : Sg) : Array Value → State → Outcome → State → Prop := fun _ st oc t => (oc = .returned (r.map (cv ad)) ∧ va_P D vwCl (cW ad C sh g') t.heap) ∧ va_F (va_A (cW ad C sh g) sz) st t
/-- a method's contract: at depth d, its function is f -/
def CM (l : Launch) (sh : Shp) (E : Ex) (y : MethodName) (b : ByteArray) (n : Nat) (rt : Option FieldType) (d : Nat) (f : Mf) : Prop :=
  ∀ (D : va_G) (C : CI3) (ad : Nat → Nat) (sz : Nat) (as : List AV) (g : Sg), f.1 as g = true → Met l y (mws y b n rt) (rmd d) (va_Pc (as.map (cv ad)) (PreW D C ad sh E g sz)) (QW D C ad sh g sz (f.2 as g).1 (f.2 as g).2) 0 0 (va_A (cW ad C sh g) sz)
theorem goodTB {ws : List Cond} (h : ∀ w ∈ ws, w ∈ TB) : GoodIn TB ws := fun w hw => ⟨h w hw, good_of_word (List.mem_filter.mp (h w hw)).2⟩
theorem nw_tab : ∀ w ∈ NW, w.onTables = true := by
  intro w hw
  simp only [NW, List.mem_cons, List.not_mem_nil, or_false] at hw
  rcases hw with h | h | h | h | h | h | h | h | h | h | h <;> subst h <;> rfl
theorem nw_warm {s U : State} (hW : s.WarmedH U.vm) : ∀ w ∈ NW, va_Nw w s → va_Nw w U := by
  intro w hw hz
  simp only [NW, List.mem_cons, List.not_mem_nil, or_false] at hw
  rcases hw with h | h | h | h | h | h | h | h | h | h | h <;> subst h <;> first | exact va_Nw.warmM hW hz | exact va_Nw.warmF hW hz
theorem pk_spec : ∀ (n : Nat) (acc st as r : List AV), pk n acc st = some (as, r) → acc.reverse ++ st = as.reverse ++ r ∧ as.length = n + acc.length
  | 0, acc, st, as, r, h => by
    simp [pk] at h
    rw [h.1, h.2]
    simp
  | n + 1, acc, [], as, r, h => by simp [pk] at h
  | n + 1, acc, v :: st, as, r, h => by
    obtain ⟨h1, h2⟩ := pk_spec n (v :: acc) st as r (by simpa [pk] using h)
    exact ⟨by simpa using h1, by rw [h2]; simp; omega⟩
theorem cat_sum (ad : Nat → Nat) : ∀ (r : List AV), ((r.map (cv ad)).map fun v => v.category).sum = r.length
  | [] => rfl
  | a :: t => by
    have := cat_sum ad t
    simp [cv_cat] at this ⊢
    omega
theorem pre_blind {D : va_G} {C : CI3} {ad : Nat → Nat} {sh : Shp} {E : Ex} {g : Sg} {sz : Nat} {av : List Value} : FrameBlind (va_Pc av (PreW D C ad sh E g sz)) := by
  intro a U gf mk q
  obtain ⟨q0, q1, qP, qD, qK, qN, qZ, qT, qU⟩ := q
  exact ⟨q0, q1, qP, qD, va_K.moved (u := U) (U := U.calling gf mk a) (Vm.Alike.refl U.vm) qK, fun w hw => va_Nw.same (u := U) (U := U.calling gf mk a) (nw_tab w hw) rfl (qN w hw), va_Z.moved (u := U) (U := U.calling gf mk a) (Vm.Alike.refl U.vm) qZ, va_T.moved (u := U) (U := U.calling gf mk a) (Vm.Alike.refl U.vm) qT, va_T.moved (u := U) (U := U.calling gf mk a) (Vm.Alike.refl U.vm) qU⟩
section CALLS
variable {p : Program} {l : Launch} {e : Env} {R : Room} {s : State} {m : MethodId} {args : Array Value} {below : List Frame} {meth : Method} {c : Code} {cells slots : Nat} {Q : State → Prop} {D : va_G} {C : CI3} {A : Nat → Prop} {ad : Nat → Nat} {sh : Shp} {E : Ex} {cc : ByteArray} {nL : Nat} {own : String} {rt : Option FieldType}
theorem cx_free (X : Cx p R s m args c cc nL own D C A ad sh E) {H : Heap} {locs : List Loc} (hS : va_S A s.heap H locs) (g : Sg) : ∀ q, va_A (cW ad C sh g) H.size q → A q := by
  obtain ⟨hx, hb, hml, ho, hts, hN, hK, hA, hD, hZ, hT, hU⟩ := X
  intro q h
  rcases h with ⟨k, e, h⟩ | h
  · exact (hD g).2 k _ h
  · exact hA q (Nat.le_trans hS.1 h)
theorem cx_pre (X : Cx p R s m args c cc nL own D C A ad sh E) {H : Heap} {locs : List Loc} (hS : va_S A s.heap H locs) {g : Sg} (hP : va_P D vwCl (cW ad C sh g) H) (av : List Value) : ∀ U : State, U.heap = H → s.WarmedH U.vm → va_Pc av (PreW D C ad sh E g H.size) av.toArray U := by
  have hF := cx_free X hS g
  obtain ⟨hx, hb, hml, ho, hts, hN, hK, hA, hD, hZ, hT, hU⟩ := X
  intro U hU hW
  subst hU
  exact ⟨rfl, rfl, hP, (hD g).weaken (fun _ _ _ _ => trivial), va_K.moved hW.alike hK, fun w hw => nw_warm hW w hw (hN w hw), (va_Z.moved hW.alike (hZ.kept hS.2.1)).narrow hF, (va_T.moved hW.alike (hT.kept hS.2.1)).narrow hF, (va_T.moved hW.alike (va_T.kept ‹va_T .int (ad 1000001) E.1 (fun j => .int (E.2 j)) A s s.heap› hS.2.1)).narrow hF⟩
theorem aw_call (X : Cx p R s m args c cc nL own D C A ad sh E) {pc : Nat} {ls : Array Slot} {st0 : List Value} {rest : List AV} {L : Lc} {g g' : Sg} {r : Option AV} {H : Heap} {locs : List Loc} {a : Array Value} (hS : va_S A s.heap H locs) (hL : LH ad nL ls L)
    (hr : va_Run p l e R s m args below meth c H locs cells slots 0 0 (F0 m pc ls st0) (rest.map (cv ad)) (QW D C ad sh g H.size r g' a) (va_A (cW ad C sh g) H.size)) (k : AW p l e R s m args below meth c cells slots Q D C A ad sh nL (pc + 3) L (r.toList ++ rest) g') : W p l e R s m args below meth c H locs cells slots Q (F0 m pc ls st0) := by
  have hF := cx_free X hS g
  intro T hT XX
  obtain ⟨v, st₀, t, T', L', h0, X', hLL, e1, e2, ⟨⟨hv, hP1⟩, hz, hk⟩, st⟩ := hr T hT XX
  have hv' : v = r.map (cv ad) := by cases hv; rfl
  subst hv'
  rw [h0] at hz hk
  obtain ⟨t2, a1, b1⟩ := k T'.heap (locs ++ L') ls (by rw [e1]; exact hP1) ⟨Nat.le_trans hS.1 (by rw [e1]; exact hz), fun q h1 h2 => by rw [e1, hk q (Nat.lt_of_lt_of_le h1 hS.1) (fun z => h2 (hF q z))]; exact hS.2.1 q h1 h2, fun q hq => by
      rcases List.mem_append.mp hq with h | h
      · exact hS.2.2 q h
      · exact hF _ (hLL q h)⟩ hL T' rfl X'
  refine ⟨t2, st t2 ?_, b1⟩
  cases r <;> exact a1
theorem s_callS (X : Cx p R s m args c cc nL own D C A ad sh E) {env : Nat → Mf} {pc idx j n d nb : Nat} {y : MethodName} {b : ByteArray} {rt' : Option FieldType} (hd : decode cc pc = .ok (.invokestatic idx, 3)) (hM : CM l sh E y b nb rt' d (env j)) (hl : Cond.methodLink own idx y ∈ TB) (hst : Cond.static y ∈ TB) (hin : Cond.initialized y.cls ∈ TB) (hco : Cond.code y b nb rt' ∈ TB) (hy : y.cls ≠ "java/lang/invoke/MethodHandle" ∧ y.cls ≠ "java/lang/invoke/VarHandle" ∧ (parseMethodDescriptor y.desc).map (fun d => d.parameters.length) = some n) (hR : d + 1 ≤ R.frames ∧ 8 + (nb + 11) + 100 * d ≤ R.locals) (hcs : cells ≤ R.cells ∧ slots ≤ R.slots) : SS p l e R s m args below meth c cells slots Q D C A ad sh nL cc rt pc (o_call env (pc + 3) j n) := by
  intro go L st g o h ok k H locs ls hP hS hL
  unfold o_call at h
  split at h
  · rename_i as r hpk
    obtain ⟨h1, h2⟩ := pk_spec n [] st as r hpk
    split at h
    · rename_i hr8
      have hr8' : r.length ≤ 8 := Nat.le_of_ble_eq_true hr8
      have hrun : (env j).1 as g = true → AW p l e R s m args below meth c cells slots Q D C A ad sh nL (pc + 3) L (((env j).2 as g).1.toList ++ r) ((env j).2 as g).2 → W p l e R s m args below meth c H locs cells slots Q (F0 m pc ls (st.map (cv ad))) := by
        intro hv kk
        refine aw_call X hS hL (va_runS (As := as.map (cv ad)) (Ts := TB) ⟨X.1, X.2.1, X.2.2.1, X.2.2.2.1, X.2.2.2.2.1⟩ (hM D C ad H.size as g hv) (va_cwS n X.2.2.2.2.1 (goodTB (fun w hw => ?_)) rfl rfl rfl hy hR) ⟨pre_blind, cx_pre X hS hP _⟩ rfl (by simp [h2]) (by rw [X.2.2.1.symm]; exact hL.1.trans X.2.2.1.symm) ?_ (lv_room (by rw [cat_sum]; exact hr8')) hd hcs) kk
        · simp only [va_wsS, mws, List.mem_append, List.mem_cons, List.not_mem_nil, or_false] at hw
          rcases hw with (h | h | h) | h | h
          · rw [h]; exact hl
          · rw [h]; exact hst
          · rw [h]; exact hin
          · rw [h]; exact hco
          · exact h
        · have : st = as.reverse ++ r := by simpa using h1
          rw [this]
          simp
      split at h
      · rename_i hv
        exact hrun hv (k _ _ _ _ h)
      · cases h
    · cases h
  · cases h
theorem s_callSN (X : Cx p R s m args c cc nL own D C A ad sh E) {env : Nat → Mf} {pc idx j n d nb : Nat} {y : MethodName} {b : ByteArray} {rt' : Option FieldType} (hd : decode cc pc = .ok (.invokestatic idx, 3)) (hM : CM l sh E y b nb rt' d (env j)) (hl : Cond.methodLinkNest own idx y RX4 ∈ NW) (hst : Cond.static y ∈ TB) (hin : Cond.initialized y.cls ∈ TB) (hco : Cond.code y b nb rt' ∈ TB) (hy : y.cls ≠ "java/lang/invoke/MethodHandle" ∧ y.cls ≠ "java/lang/invoke/VarHandle" ∧ (parseMethodDescriptor y.desc).map (fun d => d.parameters.length) = some n) (hR : d + 1 ≤ R.frames ∧ 8 + (nb + 11) + 100 * d ≤ R.locals) (hcs : cells ≤ R.cells ∧ slots ≤ R.slots) : SS p l e R s m args below meth c cells slots Q D C A ad sh nL cc rt pc (o_call env (pc + 3) j n) := by
  intro go L st g o h ok k H locs ls hP hS hL
  unfold o_call at h
  split at h
  · rename_i as r hpk
    obtain ⟨h1, h2⟩ := pk_spec n [] st as r hpk
    split at h
    · rename_i hr8
      have hr8' : r.length ≤ 8 := Nat.le_of_ble_eq_true hr8
      have hrun : (env j).1 as g = true → AW p l e R s m args below meth c cells slots Q D C A ad sh nL (pc + 3) L (((env j).2 as g).1.toList ++ r) ((env j).2 as g).2 → W p l e R s m args below meth c H locs cells slots Q (F0 m pc ls (st.map (cv ad))) := by
        intro hv kk
        refine aw_call X hS hL (va_runSN (As := as.map (cv ad)) (Ts := TB) ⟨X.1, X.2.1, X.2.2.1, X.2.2.2.1, X.2.2.2.2.1⟩ (hM D C ad H.size as g hv) ⟨va_cnB n X.2.2.2.2.1 (goodTB (fun w hw => ?_)) rfl rfl rfl (X.2.2.2.2.2.1 _ hl) (X.2.2.2.2.1 _ hin) hy hR, X.2.2.2.2.1 _ hst, trivial⟩ ⟨pre_blind, cx_pre X hS hP _⟩ rfl (by simp [h2]) (by rw [X.2.2.1.symm]; exact hL.1.trans X.2.2.1.symm) ?_ (lv_room (by rw [cat_sum]; exact hr8')) hd hcs) kk
        · simp only [mws, List.mem_cons] at hw
          rcases hw with h | h
          · rw [h]; exact hco
          · exact h
        · have : st = as.reverse ++ r := by simpa using h1
          rw [this]
          simp
      split at h
      · rename_i hv
        exact hrun hv (k _ _ _ _ h)
      · cases h
    · cases h
  · cases h
theorem s_callV (X : Cx p R s m args c cc nL own D C A ad sh E) {env : Nat → Mf} {CN : String} {T : u_T} {N ci pc idx j n d nb : Nat} {y : MethodName} {b : ByteArray} {rt' : Option FieldType} (hd : decode cc pc = .ok (.invokevirtual idx, 3)) (hM : CM l sh E y b nb rt' d (env j)) (hc : vwCl[ci]? = some (CN, T, N)) (hl : Cond.methodLink own idx y ∈ TB) (hst : Cond.instanceMethod y ∈ TB) (hse : Cond.selects CN y y ∈ TB) (hin : Cond.initialized CN ∈ TB) (hco : Cond.code y b nb rt' ∈ TB) (hy : y.cls = CN ∧ y.cls ≠ "java/lang/invoke/MethodHandle" ∧ y.cls ≠ "java/lang/invoke/VarHandle" ∧ (parseMethodDescriptor y.desc).map (fun d => d.parameters.length) = some n) (hR : d + 1 ≤ R.frames ∧ 8 + (nb + 11) + 100 * d ≤ R.locals) (hcs : cells ≤ R.cells ∧ slots ≤ R.slots) : SS p l e R s m args below meth c cells slots Q D C A ad sh nL cc rt pc (o_callV sh env (pc + 3) j n ci) := by
  intro go L st g o h ok k H locs ls hP hS hL
  unfold o_callV at h
  split at h
  · rename_i as r hpk
    obtain ⟨h1, h2⟩ := pk_spec (n + 1) [] st as r hpk
    split at h
    · rename_i hr8
      have hr8' : r.length ≤ 8 := Nat.le_of_ble_eq_true hr8
      split at h
      · rename_i q as'
        split at h
        · rename_i ci' rs hq
          split at h
          · rename_i e
            subst e
            have hrun : (env j).1 (.inr (some q) :: as') g = true → AW p l e R s m args below meth c cells slots Q D C A ad sh nL (pc + 3) L (((env j).2 (.inr (some q) :: as') g).1.toList ++ r) ((env j).2 (.inr (some q) :: as') g).2 → W p l e R s m args below meth c H locs cells slots Q (F0 m pc ls (st.map (cv ad))) := by
              intro hv kk
              refine aw_call X hS hL (va_runV (C := CN) (b := ad q) (As := as'.map (cv ad)) (Ts := TB) ⟨X.1, X.2.1, X.2.2.1, X.2.2.2.1, X.2.2.2.2.1⟩ (hM D C ad H.size _ g hv) (cwV n X.2.2.2.2.1 (goodTB (fun w hw => ?_)) rfl rfl rfl hy hR) ⟨pre_blind, va_recv X.2.2.2.2.2.2.1 hP hc (cW_get hq), cx_pre X hS hP _⟩ rfl (by simp at h2; simp [h2]) (by rw [X.2.2.1.symm]; exact hL.1.trans X.2.2.1.symm) ?_ (lv_room (by rw [cat_sum]; exact hr8')) hd hcs) kk
              · simp only [wsV, mws, List.mem_append, List.mem_cons, List.not_mem_nil, or_false] at hw
                rcases hw with (h | h | h | h) | h | h
                · rw [h]; exact hl
                · rw [h]; exact hst
                · rw [h]; exact hse
                · rw [h]; exact hin
                · rw [h]; exact hco
                · exact h
              · have : st = as'.reverse ++ .inr (some q) :: r := by simpa using h1
                rw [this]
                simp [cv, va_rf]
            split at h
            · rename_i hv
              exact hrun hv (k _ _ _ _ h)
            · cases h
          · cases h
        · cases h
      · cases h
    · cases h
  · cases h
theorem s_mmin (X : Cx p R s m args c cc nL own D C A ad sh E) {pc idx : Nat} (hd : decode cc pc = .ok (.invokestatic idx, 3)) (hl : Cond.methodLink own idx Lib.Math.min.name ∈ TB) (h1 : Cond.static Lib.Math.min.name ∈ TB) (h2 : Cond.initialized "java/lang/Math" ∈ TB) (h3 : Cond.code Lib.Math.min.name Lib.Math.min.code 2 (some .int) ∈ TB) (hR : 1 ≤ R.frames ∧ 100 ≤ R.locals) (hcs : cells ≤ R.cells ∧ slots ≤ R.slots) : SS p l e R s m args below meth c cells slots Q D C A ad sh nL cc rt pc (o_mm (pc + 3) minI) := by
  intro go L st g o h ok k H locs ls hP hS hL
  unfold o_mm at h
  split at h
  · rename_i y x r
    split at h
    · rename_i hr8
      have hr8' : r.length ≤ 8 := Nat.le_of_ble_eq_true hr8
      obtain ⟨hx, hb, hml, ho, hts, -⟩ := X
      refine va_mmin hx hb (by rw [hml, hL.1]) ho (hts _ hl) (hts _ h1) (hts _ h2) (hts _ h3) hR.1 (by rw [cat_sum]; omega) hcs.1 hcs.2 hd ?_
      rw [minI_eq]
      exact k _ _ _ _ h H locs ls hP hS hL
    · cases h
  · cases h
theorem s_mmax (X : Cx p R s m args c cc nL own D C A ad sh E) {pc idx : Nat} (hd : decode cc pc = .ok (.invokestatic idx, 3)) (hl : Cond.methodLink own idx Lib.Math.max.name ∈ TB) (h1 : Cond.static Lib.Math.max.name ∈ TB) (h2 : Cond.initialized "java/lang/Math" ∈ TB) (h3 : Cond.code Lib.Math.max.name Lib.Math.max.code 2 (some .int) ∈ TB) (hR : 1 ≤ R.frames ∧ 100 ≤ R.locals) (hcs : cells ≤ R.cells ∧ slots ≤ R.slots) : SS p l e R s m args below meth c cells slots Q D C A ad sh nL cc rt pc (o_mm (pc + 3) maxI) := by
  intro go L st g o h ok k H locs ls hP hS hL
  unfold o_mm at h
  split at h
  · rename_i y x r
    split at h
    · rename_i hr8
      have hr8' : r.length ≤ 8 := Nat.le_of_ble_eq_true hr8
      obtain ⟨hx, hb, hml, ho, hts, -⟩ := X
      refine va_mmax hx hb (by rw [hml, hL.1]) ho (hts _ hl) (hts _ h1) (hts _ h2) (hts _ h3) hR.1 (by rw [cat_sum]; omega) hcs.1 hcs.2 hd ?_
      rw [maxI_eq]
      exact k _ _ _ _ h H locs ls hP hS hL
    · cases h
  · cases h
theorem ft_mem : ∀ (T : List (Nat × Stq)) (pc : Nat) (f : Stq), ft T pc = some f → (pc, f) ∈ T
  | [], pc, f, h => by simp [ft] at h
  | a :: t, pc, f, h => by
    unfold ft at h
    split at h
    · rename_i hb
      cases h
      have := Nat.eq_of_beq_eq_true hb
      rw [← this]
      exact List.mem_cons_self
    · exact List.mem_cons_of_mem _ (ft_mem t pc f h)
theorem seg_ok {T : List (Nat × Stq)} {K : List (Nat × Nat)} (hT : ∀ q ∈ T, SS p l e R s m args below meth c cells slots Q D C A ad sh nL cc rt q.1 q.2) : ∀ (n : Nat) (pc : Nat) (L : Lc) (st : List AV) (g : Sg) (o : Ou), seg T K n pc L st g = some o → (∀ r g', o = .inl (r, g') → OKr p l e R s m args below meth c cells slots Q D C A ad sh nL cc rt r g') → (∀ pc' L' st' g', o = .inr (pc', L', st', g') → AW p l e R s m args below meth c cells slots Q D C A ad sh nL pc' L' st' g') → AW p l e R s m args below meth c cells slots Q D C A ad sh nL pc L st g
  | 0, pc, L, st, g, o, h, _, _ => by simp [seg] at h
  | n + 1, pc, L, st, g, o, h, ok, k => by
    unfold seg at h
    split at h
    · cases h
    · rename_i f hf
      refine hT (pc, f) (ft_mem T pc f hf) _ L st g o h ok (fun pc' L' st' g' hg => ?_)
      split at hg
      · rename_i q hq
        cases hg
        exact fun H locs ls hP hS hL => k _ _ _ _ rfl H locs ls hP hS (hL.tk q)
      · exact seg_ok hT n pc' L' st' g' o hg ok k
theorem rn_ok {T : List (Nat × Stq)} {K : List (Nat × Nat)} (hT : ∀ q ∈ T, SS p l e R s m args below meth c cells slots Q D C A ad sh nL cc rt q.1 q.2) {r : Option AV} {g' : Sg} (ok : OKr p l e R s m args below meth c cells slots Q D C A ad sh nL cc rt r g') : ∀ (n : Nat) (pc : Nat) (L : Lc) (st : List AV) (g : Sg), rn T K n pc L st g = some (r, g') → AW p l e R s m args below meth c cells slots Q D C A ad sh nL pc L st g
  | 0, pc, L, st, g, h => by simp [rn] at h
  | n + 1, pc, L, st, g, h => by
    unfold rn at h
    split at h
    · rename_i o hs
      cases h
      exact seg_ok hT 2000 pc L st g _ hs (fun r' g'' q => by cases q; exact ok) (fun _ _ _ _ q => by cases q)
    · rename_i pc' L' st' g'' hs
      exact seg_ok hT 2000 pc L st g _ hs (fun _ _ q => by cases q) (fun _ _ _ _ q => by cases q; exact rn_ok hT ok n pc' L' st' g'' h)
    · cases h
end CALLS
theorem lg_len (ad : Nat → Nat) : ∀ (as : List AV), (lg_sl (as.map (cv ad))).length = as.length
  | [] => rfl
  | a :: t => by
    have := lg_len ad t
    simp only [lg_sl, List.map_cons, List.flatMap_cons, cv_cat] at this ⊢
    simp at this ⊢
    omega
theorem args_in (ad : Nat → Nat) : ∀ (as : List AV) (k i : Nat) (v : AV), nth (as.map some) i = some v → (k + i, cv ad v) ∈ lv_args k (as.map (cv ad))
  | [], k, i, v, h => by simp [nth] at h
  | a :: t, k, 0, v, h => by
    simp [nth] at h
    subst h
    simp [lv_args]
  | a :: t, k, i + 1, v, h => by
    have h' := args_in ad t (k + 1) i v (by simpa [nth] using h)
    simp only [List.map_cons, lv_args, cv_cat]
    refine List.mem_cons_of_mem _ ?_
    simpa [Nat.add_assoc, Nat.add_comm 1 i] using h'
/-- a method's contract out of its run -/
theorem cm_of {l : Launch} {sh : Shp} {E : Ex} {y : MethodName} {b : ByteArray} {nb d : Nat} {own : String} {rt : Option FieldType} {f : Mf} {T : List (Nat × Stq)} {K : List (Nat × Nat)} (hy : plainName y.cls = true) (ho : own = y.cls) (hrt : rt = none ∨ rt = some .int ∨ rt = some .boolean)
    (hT : ∀ (p : Program) (e : Env) (s : State) (m : MethodId) (args : Array Value) (below : List Frame) (meth : Method) (c : Code) (Q : State → Prop) (D : va_G) (C : CI3) (A : Nat → Prop) (ad : Nat → Nat), Cx p (rmd d) s m args c b nb own D C A ad sh E → ∀ q ∈ T, SS p l e (rmd d) s m args below meth c 0 0 Q D C A ad sh nb b rt q.1 q.2)
    (hf : ∀ (as : List AV) (g : Sg), f.1 as g = true → as.length ≤ nb ∧ ((f.2 as g).1 = none ↔ rt = none) ∧ Rn T K 0 (as.map some) [] g (f.2 as g)) : CM l sh E y b nb rt d f := by
  intro D C ad sz as g hfr
  obtain ⟨hlen, hrr, n, hn⟩ := hf as g hfr
  obtain ⟨r, g', e0⟩ : ∃ r g', f.2 as g = (r, g') := ⟨_, _, rfl⟩
  rw [e0] at hrr hn ⊢
  refine Met.ofW (cc := b) (maxL := nb) (ret := rt) hy rfl ?_
  intro p e s m args below meth c s₁ B hml hv
  obtain ⟨rfl, hsz, hP, hD0, hK, hN, hZ, hT1, hT2⟩ := hv
  subst hsz
  have hts : ∀ w ∈ TB, w.before (as.map (cv ad)).toArray s = true := fun w hw => atoms_spec (ws := mws y b nb rt) B.pre w (List.mem_cons_of_mem _ hw)
  have hown : s.vm.findClass own = some m.cls := by rw [ho]; exact findClass_of_methodNamed B.named
  have X : Cx p (rmd d) s m (as.map (cv ad)).toArray c b nb own D C (va_A (cW ad C sh g) s.heap.size) ad sh E := ⟨B.exec, B.bytes, hml, hown, hts, hN, hK, fun q h => Or.inr h, fun g2 => cW_D (g := g) hD0.self, hZ, hT1, hT2⟩
  have hl := lv_entry (as.map (cv ad)) (n := nb) (by rw [lg_len]; exact hlen)
  rw [lg_entry_eq]
  generalize (lg_sl (as.map (cv ad)) ++ List.replicate (nb - (lg_sl (as.map (cv ad))).length) Slot.unset).toArray = ls at hl ⊢
  have hL : LH ad nb ls (as.map some) := ⟨hl.1, hl.2.1, fun i v hv => hl.2.2 (i, cv ad v) (by simpa using args_in ad as 0 i v hv)⟩
  refine rn_ok (rt := rt) (hT p e s m _ below meth c _ D C _ ad X) ?_ n 0 _ [] g hn s.heap [] ls hP va_S.rf hL
  intro pc H locs ls' h1 h2 hP1 hS1
  have hret := B.returns
  have hlocks := B.notSynchronized
  cases r with
  | none =>
    have e1 : rt = none := hrr.mp rfl
    subst e1
    exact W.vret B.exec B.bytes hret (fun t ht hW => ⟨⟨rfl, by rw [ht]; exact hP1⟩, hS1.F ht⟩) hS1.2.2 (h1 rfl)
  | some v =>
    obtain ⟨hdg, ⟨x, rfl⟩, hz⟩ := h2 v rfl
    rcases hrt with e1 | e1 | e1
    · exact absurd (hrr.mpr e1) (fun q => by cases q)
    · subst e1
      exact W.iret (v := x) B.exec B.bytes hret (fun t ht hW => ⟨⟨rfl, by rw [ht]; exact hP1⟩, hS1.F ht⟩) hS1.2.2 hdg
    · subst e1
      exact W.zret (v := x) B.exec B.bytes hret (isB_nar (hz rfl x rfl)).1 (fun t ht hW => ⟨⟨rfl, by rw [ht]; exact hP1⟩, hS1.F ht⟩) hS1.2.2 hdg
