/-! THE STEPS ARE THE BYTECODE'S -/
def TB : List Cond := lw_tbl.filter goodWord
def NW : List Cond := [.methodLinkNest RX4 25 yX3_init RX4, .methodLinkNest RX4 32 yX1_init RX4, .methodLinkNest RX2 43 yX4_isSlot RX4, .fieldLinkNest RX2 56 RX4 "FIVES" "[I" RX4, .fieldLinkNest RX3 44 RX4 "FIVES" "[I" RX4, .methodLinkNest RX3 55 yX4_digitOf RX4, .methodLinkNest RX3 58 yX4_turnedOf RX4, .methodLinkNest RX2 68 yX4_covers RX4, .methodLinkNest RX2 72 yX4_turnedOf RX4, .methodLinkNest RX3 62 yX4_columnsOf RX4, .methodLinkNest RX3 69 yX4_alikeLaw RX4]
theorem inTB {w : Cond} (i : Nat) (h : lw_tbl[i]? = some w) (g : goodWord w = true) : w ∈ TB := List.mem_filter.mpr ⟨List.mem_of_getElem? h, g⟩
/-- what stays true while a method runs -/
def Cx (p : Program) (R : Room) (s : State) (m : MethodId) (args : Array Value) (c : Code) (cc : ByteArray) (nL : Nat) (own : String) (D : va_G) (C : CI3) (A : Nat → Prop) (ad : Nat → Nat) (sh : Shp) (E : Ex) : Prop :=
  p.tables.exec = Jvm.exec ∧ c.code = cc ∧ c.maxLocals = nL ∧ s.vm.findClass own = some m.cls ∧ (∀ w ∈ TB, w.before args s = true) ∧ (∀ w ∈ NW, va_Nw w s) ∧ va_K D vwCl (tyl C) s ∧ (∀ q, s.heap.size ≤ q → A q) ∧ (∀ g, va_D A (cW ad C sh g)) ∧ va_Z RX4 "FIVES" "[I" (.ref (ad 1000000)) A s s.heap ∧ va_T .int (ad 1000000) 5 (fun j => .int (fiv j)) A s s.heap ∧ va_T .int (ad 1000001) E.1 (fun j => .int (E.2 j)) A s s.heap
/-- the machine comes to Q from the abstract frame -/
def AW (p : Program) (l : Launch) (e : Env) (R : Room) (s : State) (m : MethodId) (args : Array Value) (below : List Frame) (meth : Method) (c : Code) (cells slots : Nat) (Q : State → Prop) (D : va_G) (C : CI3) (A : Nat → Prop) (ad : Nat → Nat) (sh : Shp) (nL : Nat) (pc : Nat) (L : Lc) (st : List AV) (g : Sg) : Prop :=
  ∀ (H : Heap) (locs : List Loc) (ls : Array Slot), va_P D vwCl (cW ad C sh g) H → va_S A s.heap H locs → LH ad nL ls L → W p l e R s m args below meth c H locs cells slots Q (F0 m pc ls (st.map (cv ad)))
def OKr (p : Program) (l : Launch) (e : Env) (R : Room) (s : State) (m : MethodId) (args : Array Value) (below : List Frame) (meth : Method) (c : Code) (cells slots : Nat) (Q : State → Prop) (D : va_G) (C : CI3) (A : Nat → Prop) (ad : Nat → Nat) (sh : Shp) (nL : Nat) (cc : ByteArray) (rt : Option FieldType) (r : Option AV) (g : Sg) : Prop :=
  ∀ (pc : Nat) (H : Heap) (locs : List Loc) (ls : Array Slot), (r = none → decode cc pc = .ok (.return_, 1)) → (∀ v, r = some v → decode cc pc = .ok (.ireturn, 1) ∧ (∃ x, v = .inl x) ∧ (rt = some .boolean → ∀ x, v = .inl x → isB x = true)) → va_P D vwCl (cW ad C sh g) H → va_S A s.heap H locs → W p l e R s m args below meth c H locs cells slots Q (F0 m pc ls (r.toList.map (cv ad)))
def SS (p : Program) (l : Launch) (e : Env) (R : Room) (s : State) (m : MethodId) (args : Array Value) (below : List Frame) (meth : Method) (c : Code) (cells slots : Nat) (Q : State → Prop) (D : va_G) (C : CI3) (A : Nat → Prop) (ad : Nat → Nat) (sh : Shp) (nL : Nat) (cc : ByteArray) (rt : Option FieldType) (pc : Nat) (f : Stq) : Prop :=
  ∀ (go : Ct) (L : Lc) (st : List AV) (g : Sg) (o : Ou), f go L st g = some o → (∀ r g', o = .inl (r, g') → OKr p l e R s m args below meth c cells slots Q D C A ad sh nL cc rt r g') → (∀ pc' L' st' g', go pc' L' st' g' = some o → AW p l e R s m args below meth c cells slots Q D C A ad sh nL pc' L' st' g') → AW p l e R s m args below meth c cells slots Q D C A ad sh nL pc L st g
section STEPS
variable {p : Program} {l : Launch} {e : Env} {R : Room} {s : State} {m : MethodId} {args : Array Value} {below : List Frame} {meth : Method} {c : Code} {cells slots : Nat} {Q : State → Prop} {D : va_G} {C : CI3} {A : Nat → Prop} {ad : Nat → Nat} {sh : Shp} {E : Ex} {cc : ByteArray} {nL : Nat} {own : String} {rt : Option FieldType}
theorem s_iconst (X : Cx p R s m args c cc nL own D C A ad sh E) {pc : Nat} {n : Int} {v : Int32} (hd : decode cc pc = .ok (.iconst n, 1)) (hv : Int32.ofInt n = v) : SS p l e R s m args below meth c cells slots Q D C A ad sh nL cc rt pc (o_ic (pc + 1) v) := by
  intro go L st g o h ok k H locs ls hP hS hL
  exact lv_iconst X.1 X.2.1 hd hv (k _ _ _ _ h H locs ls hP hS hL)
theorem s_bipush (X : Cx p R s m args c cc nL own D C A ad sh E) {pc : Nat} {n : Int} {v : Int32} (hd : decode cc pc = .ok (.bipush n, 2)) (hv : (Int8.ofInt n).toInt32 = v) : SS p l e R s m args below meth c cells slots Q D C A ad sh nL cc rt pc (o_ic (pc + 2) v) := by
  intro go L st g o h ok k H locs ls hP hS hL
  exact lv_bipush X.1 X.2.1 hd hv (k _ _ _ _ h H locs ls hP hS hL)
theorem s_sipush (X : Cx p R s m args c cc nL own D C A ad sh E) {pc : Nat} {n : Int} {v : Int32} (hd : decode cc pc = .ok (.sipush n, 3)) (hv : (Int16.ofInt n).toInt32 = v) : SS p l e R s m args below meth c cells slots Q D C A ad sh nL cc rt pc (o_ic (pc + 3) v) := by
  intro go L st g o h ok k H locs ls hP hS hL
  exact lv_sipush X.1 X.2.1 hd hv (k _ _ _ _ h H locs ls hP hS hL)
theorem s_ldc (X : Cx p R s m args c cc nL own D C A ad sh E) {pc i : Nat} {v : Int32} (hd : decode cc pc = .ok (.ldc i, 2)) (hl : Cond.constant own i v ∈ TB) : SS p l e R s m args below meth c cells slots Q D C A ad sh nL cc rt pc (o_ic (pc + 2) v) := by
  intro go L st g o h ok k H locs ls hP hS hL
  exact lv_ldc X.1 X.2.1 X.2.2.2.1 (X.2.2.2.2.1 _ hl) hd (k _ _ _ _ h H locs ls hP hS hL)
theorem s_ldcw (X : Cx p R s m args c cc nL own D C A ad sh E) {pc i : Nat} {v : Int32} (hd : decode cc pc = .ok (.ldc_w i, 3)) (hl : Cond.constant own i v ∈ TB) : SS p l e R s m args below meth c cells slots Q D C A ad sh nL cc rt pc (o_ic (pc + 3) v) := by
  intro go L st g o h ok k H locs ls hP hS hL
  exact lv_ldcw X.1 X.2.1 X.2.2.2.1 (X.2.2.2.2.1 _ hl) hd (k _ _ _ _ h H locs ls hP hS hL)
theorem s_iload_n (X : Cx p R s m args c cc nL own D C A ad sh E) {pc : Nat} {i : Fin 4} {j : Nat} (hd : decode cc pc = .ok (.iload_n i, 1)) (hi : (i : Nat) = j) : SS p l e R s m args below meth c cells slots Q D C A ad sh nL cc rt pc (o_il (pc + 1) j) := by
  intro go L st g o h ok k H locs ls hP hS hL
  unfold o_il at h
  split at h
  · rename_i x hx
    exact lv_iload_n X.1 X.2.1 hd hi (hL.2.2 j _ hx) (k _ _ _ _ h H locs ls hP hS hL)
  · cases h
theorem s_iload (X : Cx p R s m args c cc nL own D C A ad sh E) {pc : Nat} {j : Nat} (hd : decode cc pc = .ok (.iload j, 2)) : SS p l e R s m args below meth c cells slots Q D C A ad sh nL cc rt pc (o_il (pc + 2) j) := by
  intro go L st g o h ok k H locs ls hP hS hL
  unfold o_il at h
  split at h
  · rename_i x hx
    exact lv_iload X.1 X.2.1 hd (hL.2.2 j _ hx) (k _ _ _ _ h H locs ls hP hS hL)
  · cases h
theorem s_aload_n (X : Cx p R s m args c cc nL own D C A ad sh E) {pc : Nat} {i : Fin 4} {j : Nat} (hd : decode cc pc = .ok (.aload_n i, 1)) (hi : (i : Nat) = j) : SS p l e R s m args below meth c cells slots Q D C A ad sh nL cc rt pc (o_al (pc + 1) j) := by
  intro go L st g o h ok k H locs ls hP hS hL
  unfold o_al at h
  split at h
  · rename_i x hx
    exact lv_aload_n X.1 X.2.1 hd hi (hL.2.2 j _ hx) (k _ _ _ _ h H locs ls hP hS hL)
  · cases h
theorem s_aload (X : Cx p R s m args c cc nL own D C A ad sh E) {pc : Nat} {j : Nat} (hd : decode cc pc = .ok (.aload j, 2)) : SS p l e R s m args below meth c cells slots Q D C A ad sh nL cc rt pc (o_al (pc + 2) j) := by
  intro go L st g o h ok k H locs ls hP hS hL
  unfold o_al at h
  split at h
  · rename_i x hx
    exact lv_aload X.1 X.2.1 hd (hL.2.2 j _ hx) (k _ _ _ _ h H locs ls hP hS hL)
  · cases h
theorem s_istore_n (X : Cx p R s m args c cc nL own D C A ad sh E) {pc : Nat} {i : Fin 4} {j : Nat} (hd : decode cc pc = .ok (.istore_n i, 1)) (hi : (i : Nat) = j) (hn : j < nL) : SS p l e R s m args below meth c cells slots Q D C A ad sh nL cc rt pc (o_is (pc + 1) j) := by
  intro go L st g o h ok k H locs ls hP hS hL
  unfold o_is at h
  split at h
  · rename_i x r
    exact lv_istore_n X.1 X.2.1 hd hi hL.has hn rfl (fun ls' hl' => k _ _ _ _ h H locs ls' hP hS (hL.stored (v := .inl x) hl'))
  · cases h
theorem s_istore (X : Cx p R s m args c cc nL own D C A ad sh E) {pc : Nat} {j : Nat} (hd : decode cc pc = .ok (.istore j, 2)) (hn : j < nL) : SS p l e R s m args below meth c cells slots Q D C A ad sh nL cc rt pc (o_is (pc + 2) j) := by
  intro go L st g o h ok k H locs ls hP hS hL
  unfold o_is at h
  split at h
  · rename_i x r
    exact lv_istore X.1 X.2.1 hd hL.has hn rfl (fun ls' hl' => k _ _ _ _ h H locs ls' hP hS (hL.stored (v := .inl x) hl'))
  · cases h
theorem s_iinc (X : Cx p R s m args c cc nL own D C A ad sh E) {pc : Nat} {j : Nat} {n : Int} {d : Int32} (hd : decode cc pc = .ok (.iinc j n, 3)) (hv : Int32.ofInt n = d) (hn : j < nL) : SS p l e R s m args below meth c cells slots Q D C A ad sh nL cc rt pc (o_inc (pc + 3) j d) := by
  intro go L st g o h ok k H locs ls hP hS hL
  unfold o_inc at h
  split at h
  · rename_i x hx
    have hm : (j, Value.int x) ∈ lhl ad nL L := List.mem_filterMap.mpr ⟨j, List.mem_range.mpr hn, by simp [hx, cv]⟩
    obtain ⟨q, hq⟩ := List.mem_iff_getElem?.mp hm
    exact lv_iinc X.1 X.2.1 hd hL.has hq (by rw [hv]) hn rfl (fun ls' hl' => k _ _ _ _ h H locs ls' hP hS (hL.stored (v := .inl (x + d)) hl'))
  · cases h
theorem s_iadd (X : Cx p R s m args c cc nL own D C A ad sh E) {pc : Nat} (hd : decode cc pc = .ok (.iadd, 1)) : SS p l e R s m args below meth c cells slots Q D C A ad sh nL cc rt pc (o_b2 (pc + 1) (fun x y => x + y)) := by
  intro go L st g o h ok k H locs ls hP hS hL
  unfold o_b2 at h
  split at h
  · exact lv_iadd X.1 X.2.1 hd (k _ _ _ _ h H locs ls hP hS hL)
  · cases h
theorem s_isub (X : Cx p R s m args c cc nL own D C A ad sh E) {pc : Nat} (hd : decode cc pc = .ok (.isub, 1)) : SS p l e R s m args below meth c cells slots Q D C A ad sh nL cc rt pc (o_b2 (pc + 1) (fun x y => x - y)) := by
  intro go L st g o h ok k H locs ls hP hS hL
  unfold o_b2 at h
  split at h
  · exact lv_isub X.1 X.2.1 hd (k _ _ _ _ h H locs ls hP hS hL)
  · cases h
theorem s_imul (X : Cx p R s m args c cc nL own D C A ad sh E) {pc : Nat} (hd : decode cc pc = .ok (.imul, 1)) : SS p l e R s m args below meth c cells slots Q D C A ad sh nL cc rt pc (o_b2 (pc + 1) (fun x y => x * y)) := by
  intro go L st g o h ok k H locs ls hP hS hL
  unfold o_b2 at h
  split at h
  · exact lv_imul X.1 X.2.1 hd (k _ _ _ _ h H locs ls hP hS hL)
  · cases h
theorem s_iand (X : Cx p R s m args c cc nL own D C A ad sh E) {pc : Nat} (hd : decode cc pc = .ok (.iand, 1)) : SS p l e R s m args below meth c cells slots Q D C A ad sh nL cc rt pc (o_b2 (pc + 1) (fun x y => x &&& y)) := by
  intro go L st g o h ok k H locs ls hP hS hL
  unfold o_b2 at h
  split at h
  · exact lv_iand X.1 X.2.1 hd (k _ _ _ _ h H locs ls hP hS hL)
  · cases h
theorem s_ior (X : Cx p R s m args c cc nL own D C A ad sh E) {pc : Nat} (hd : decode cc pc = .ok (.ior, 1)) : SS p l e R s m args below meth c cells slots Q D C A ad sh nL cc rt pc (o_b2 (pc + 1) (fun x y => x ||| y)) := by
  intro go L st g o h ok k H locs ls hP hS hL
  unfold o_b2 at h
  split at h
  · exact lv_ior X.1 X.2.1 hd (k _ _ _ _ h H locs ls hP hS hL)
  · cases h
theorem s_ixor (X : Cx p R s m args c cc nL own D C A ad sh E) {pc : Nat} (hd : decode cc pc = .ok (.ixor, 1)) : SS p l e R s m args below meth c cells slots Q D C A ad sh nL cc rt pc (o_b2 (pc + 1) (fun x y => x ^^^ y)) := by
  intro go L st g o h ok k H locs ls hP hS hL
  unfold o_b2 at h
  split at h
  · exact lv_ixor X.1 X.2.1 hd (k _ _ _ _ h H locs ls hP hS hL)
  · cases h
theorem s_ishl (X : Cx p R s m args c cc nL own D C A ad sh E) {pc : Nat} (hd : decode cc pc = .ok (.ishl, 1)) : SS p l e R s m args below meth c cells slots Q D C A ad sh nL cc rt pc (o_b2 (pc + 1) (fun x y => x <<< (y &&& 31))) := by
  intro go L st g o h ok k H locs ls hP hS hL
  unfold o_b2 at h
  split at h
  · exact lv_ishl X.1 X.2.1 hd (k _ _ _ _ h H locs ls hP hS hL)
  · cases h
theorem s_ishr (X : Cx p R s m args c cc nL own D C A ad sh E) {pc : Nat} (hd : decode cc pc = .ok (.ishr, 1)) : SS p l e R s m args below meth c cells slots Q D C A ad sh nL cc rt pc (o_b2 (pc + 1) (fun x y => x >>> (y &&& 31))) := by
  intro go L st g o h ok k H locs ls hP hS hL
  unfold o_b2 at h
  split at h
  · exact lv_ishr X.1 X.2.1 hd (k _ _ _ _ h H locs ls hP hS hL)
  · cases h
theorem s_iushr (X : Cx p R s m args c cc nL own D C A ad sh E) {pc : Nat} (hd : decode cc pc = .ok (.iushr, 1)) : SS p l e R s m args below meth c cells slots Q D C A ad sh nL cc rt pc (o_b2 (pc + 1) (fun x y => (x.toUInt32 >>> (y.toUInt32 &&& Int32.toUInt32 31)).toInt32)) := by
  intro go L st g o h ok k H locs ls hP hS hL
  unfold o_b2 at h
  split at h
  · exact lv_iushr X.1 X.2.1 hd rfl (k _ _ _ _ h H locs ls hP hS hL)
  · cases h
theorem s_idiv (X : Cx p R s m args c cc nL own D C A ad sh E) {pc : Nat} (hd : decode cc pc = .ok (.idiv, 1)) : SS p l e R s m args below meth c cells slots Q D C A ad sh nL cc rt pc (o_div (pc + 1)) := by
  intro go L st g o h ok k H locs ls hP hS hL
  unfold o_div at h
  split at h
  · split at h
    · cases h
    · rename_i hne
      exact lv_idiv X.1 X.2.1 hd hne (k _ _ _ _ h H locs ls hP hS hL)
  · cases h
theorem s_irem (X : Cx p R s m args c cc nL own D C A ad sh E) {pc : Nat} (hd : decode cc pc = .ok (.irem, 1)) : SS p l e R s m args below meth c cells slots Q D C A ad sh nL cc rt pc (o_rem (pc + 1)) := by
  intro go L st g o h ok k H locs ls hP hS hL
  unfold o_rem at h
  split at h
  · split at h
    · cases h
    · rename_i hne
      exact lv_irem X.1 X.2.1 hd hne (k _ _ _ _ h H locs ls hP hS hL)
  · cases h
theorem s_dup (X : Cx p R s m args c cc nL own D C A ad sh E) {pc : Nat} (hd : decode cc pc = .ok (.dup, 1)) : SS p l e R s m args below meth c cells slots Q D C A ad sh nL cc rt pc (o_dup (pc + 1)) := by
  intro go L st g o h ok k H locs ls hP hS hL
  unfold o_dup at h
  split at h
  · exact lv_dup X.1 X.2.1 hd (cv_cat ad _) (k _ _ _ _ h H locs ls hP hS hL)
  · cases h
theorem s_dup2 (X : Cx p R s m args c cc nL own D C A ad sh E) {pc : Nat} (hd : decode cc pc = .ok (.dup2, 1)) : SS p l e R s m args below meth c cells slots Q D C A ad sh nL cc rt pc (o_dup2 (pc + 1)) := by
  intro go L st g o h ok k H locs ls hP hS hL
  unfold o_dup2 at h
  split at h
  · exact lv_dup2_11 X.1 X.2.1 hd (cv_cat ad _) (cv_cat ad _) (k _ _ _ _ h H locs ls hP hS hL)
  · cases h
theorem s_eq0 (X : Cx p R s m args c cc nL own D C A ad sh E) {pc t : Nat} {off : Int} (hd : decode cc pc = .ok (.ifCond .eq off, 3)) (ht : (pc : Int) + off = (t : Int)) : SS p l e R s m args below meth c cells slots Q D C A ad sh nL cc rt pc (o_eq0 t (pc + 3)) := by
  intro go L st g o h ok k H locs ls hP hS hL
  unfold o_eq0 at h
  split at h
  · split at h
    · rename_i hc
      exact lv_if_eq X.1 X.2.1 hd ht (fun _ => k _ _ _ _ h H locs ls hP hS hL) (fun q => absurd hc q)
    · rename_i hc
      exact lv_if_eq X.1 X.2.1 hd ht (fun q => absurd q hc) (fun _ => k _ _ _ _ h H locs ls hP hS hL)
  · cases h
theorem s_eq (X : Cx p R s m args c cc nL own D C A ad sh E) {pc t : Nat} {off : Int} (hd : decode cc pc = .ok (.if_icmp .eq off, 3)) (ht : (pc : Int) + off = (t : Int)) : SS p l e R s m args below meth c cells slots Q D C A ad sh nL cc rt pc (o_eq t (pc + 3)) := by
  intro go L st g o h ok k H locs ls hP hS hL
  unfold o_eq at h
  split at h
  · split at h
    · rename_i hc
      exact lv_icmp_eq X.1 X.2.1 hd ht (fun _ => k _ _ _ _ h H locs ls hP hS hL) (fun q => absurd hc q)
    · rename_i hc
      exact lv_icmp_eq X.1 X.2.1 hd ht (fun q => absurd q hc) (fun _ => k _ _ _ _ h H locs ls hP hS hL)
  · cases h
theorem s_ne0 (X : Cx p R s m args c cc nL own D C A ad sh E) {pc t : Nat} {off : Int} (hd : decode cc pc = .ok (.ifCond .ne off, 3)) (ht : (pc : Int) + off = (t : Int)) : SS p l e R s m args below meth c cells slots Q D C A ad sh nL cc rt pc (o_ne0 t (pc + 3)) := by
  intro go L st g o h ok k H locs ls hP hS hL
  unfold o_ne0 at h
  split at h
  · split at h
    · rename_i hc
      exact lv_if_ne X.1 X.2.1 hd ht (fun q => absurd hc q) (fun _ => k _ _ _ _ h H locs ls hP hS hL)
    · rename_i hc
      exact lv_if_ne X.1 X.2.1 hd ht (fun _ => k _ _ _ _ h H locs ls hP hS hL) (fun q => absurd q hc)
  · cases h
theorem s_ne (X : Cx p R s m args c cc nL own D C A ad sh E) {pc t : Nat} {off : Int} (hd : decode cc pc = .ok (.if_icmp .ne off, 3)) (ht : (pc : Int) + off = (t : Int)) : SS p l e R s m args below meth c cells slots Q D C A ad sh nL cc rt pc (o_ne t (pc + 3)) := by
  intro go L st g o h ok k H locs ls hP hS hL
  unfold o_ne at h
  split at h
  · split at h
    · rename_i hc
      exact lv_icmp_ne X.1 X.2.1 hd ht (fun q => absurd hc q) (fun _ => k _ _ _ _ h H locs ls hP hS hL)
    · rename_i hc
      exact lv_icmp_ne X.1 X.2.1 hd ht (fun _ => k _ _ _ _ h H locs ls hP hS hL) (fun q => absurd q hc)
  · cases h
theorem s_lt0 (X : Cx p R s m args c cc nL own D C A ad sh E) {pc t : Nat} {off : Int} (hd : decode cc pc = .ok (.ifCond .lt off, 3)) (ht : (pc : Int) + off = (t : Int)) : SS p l e R s m args below meth c cells slots Q D C A ad sh nL cc rt pc (o_lt0 t (pc + 3)) := by
  intro go L st g o h ok k H locs ls hP hS hL
  unfold o_lt0 at h
  split at h
  · split at h
    · rename_i hc
      exact lv_if_lt X.1 X.2.1 hd ht (fun _ => k _ _ _ _ h H locs ls hP hS hL) (fun q => absurd hc q)
    · rename_i hc
      exact lv_if_lt X.1 X.2.1 hd ht (fun q => absurd q hc) (fun _ => k _ _ _ _ h H locs ls hP hS hL)
  · cases h
theorem s_lt (X : Cx p R s m args c cc nL own D C A ad sh E) {pc t : Nat} {off : Int} (hd : decode cc pc = .ok (.if_icmp .lt off, 3)) (ht : (pc : Int) + off = (t : Int)) : SS p l e R s m args below meth c cells slots Q D C A ad sh nL cc rt pc (o_lt t (pc + 3)) := by
  intro go L st g o h ok k H locs ls hP hS hL
  unfold o_lt at h
  split at h
  · split at h
    · rename_i hc
      exact lv_icmp_lt X.1 X.2.1 hd ht (fun _ => k _ _ _ _ h H locs ls hP hS hL) (fun q => absurd hc q)
    · rename_i hc
      exact lv_icmp_lt X.1 X.2.1 hd ht (fun q => absurd q hc) (fun _ => k _ _ _ _ h H locs ls hP hS hL)
  · cases h
theorem s_ge0 (X : Cx p R s m args c cc nL own D C A ad sh E) {pc t : Nat} {off : Int} (hd : decode cc pc = .ok (.ifCond .ge off, 3)) (ht : (pc : Int) + off = (t : Int)) : SS p l e R s m args below meth c cells slots Q D C A ad sh nL cc rt pc (o_ge0 t (pc + 3)) := by
  intro go L st g o h ok k H locs ls hP hS hL
  unfold o_ge0 at h
  split at h
  · split at h
    · rename_i hc
      exact lv_if_ge X.1 X.2.1 hd ht (fun _ => k _ _ _ _ h H locs ls hP hS hL) (fun q => absurd hc q)
    · rename_i hc
      exact lv_if_ge X.1 X.2.1 hd ht (fun q => absurd q hc) (fun _ => k _ _ _ _ h H locs ls hP hS hL)
  · cases h
theorem s_ge (X : Cx p R s m args c cc nL own D C A ad sh E) {pc t : Nat} {off : Int} (hd : decode cc pc = .ok (.if_icmp .ge off, 3)) (ht : (pc : Int) + off = (t : Int)) : SS p l e R s m args below meth c cells slots Q D C A ad sh nL cc rt pc (o_ge t (pc + 3)) := by
  intro go L st g o h ok k H locs ls hP hS hL
  unfold o_ge at h
  split at h
  · split at h
    · rename_i hc
      exact lv_icmp_ge X.1 X.2.1 hd ht (fun _ => k _ _ _ _ h H locs ls hP hS hL) (fun q => absurd hc q)
    · rename_i hc
      exact lv_icmp_ge X.1 X.2.1 hd ht (fun q => absurd q hc) (fun _ => k _ _ _ _ h H locs ls hP hS hL)
  · cases h
theorem s_gt0 (X : Cx p R s m args c cc nL own D C A ad sh E) {pc t : Nat} {off : Int} (hd : decode cc pc = .ok (.ifCond .gt off, 3)) (ht : (pc : Int) + off = (t : Int)) : SS p l e R s m args below meth c cells slots Q D C A ad sh nL cc rt pc (o_gt0 t (pc + 3)) := by
  intro go L st g o h ok k H locs ls hP hS hL
  unfold o_gt0 at h
  split at h
  · split at h
    · rename_i hc
      exact lv_if_gt X.1 X.2.1 hd ht (fun _ => k _ _ _ _ h H locs ls hP hS hL) (fun q => absurd hc q)
    · rename_i hc
      exact lv_if_gt X.1 X.2.1 hd ht (fun q => absurd q hc) (fun _ => k _ _ _ _ h H locs ls hP hS hL)
  · cases h
theorem s_gt (X : Cx p R s m args c cc nL own D C A ad sh E) {pc t : Nat} {off : Int} (hd : decode cc pc = .ok (.if_icmp .gt off, 3)) (ht : (pc : Int) + off = (t : Int)) : SS p l e R s m args below meth c cells slots Q D C A ad sh nL cc rt pc (o_gt t (pc + 3)) := by
  intro go L st g o h ok k H locs ls hP hS hL
  unfold o_gt at h
  split at h
  · split at h
    · rename_i hc
      exact lv_icmp_gt X.1 X.2.1 hd ht (fun _ => k _ _ _ _ h H locs ls hP hS hL) (fun q => absurd hc q)
    · rename_i hc
      exact lv_icmp_gt X.1 X.2.1 hd ht (fun q => absurd q hc) (fun _ => k _ _ _ _ h H locs ls hP hS hL)
  · cases h
theorem s_le0 (X : Cx p R s m args c cc nL own D C A ad sh E) {pc t : Nat} {off : Int} (hd : decode cc pc = .ok (.ifCond .le off, 3)) (ht : (pc : Int) + off = (t : Int)) : SS p l e R s m args below meth c cells slots Q D C A ad sh nL cc rt pc (o_le0 t (pc + 3)) := by
  intro go L st g o h ok k H locs ls hP hS hL
  unfold o_le0 at h
  split at h
  · split at h
    · rename_i hc
      exact lv_if_le X.1 X.2.1 hd ht (fun _ => k _ _ _ _ h H locs ls hP hS hL) (fun q => absurd hc q)
    · rename_i hc
      exact lv_if_le X.1 X.2.1 hd ht (fun q => absurd q hc) (fun _ => k _ _ _ _ h H locs ls hP hS hL)
  · cases h
theorem s_le (X : Cx p R s m args c cc nL own D C A ad sh E) {pc t : Nat} {off : Int} (hd : decode cc pc = .ok (.if_icmp .le off, 3)) (ht : (pc : Int) + off = (t : Int)) : SS p l e R s m args below meth c cells slots Q D C A ad sh nL cc rt pc (o_le t (pc + 3)) := by
  intro go L st g o h ok k H locs ls hP hS hL
  unfold o_le at h
  split at h
  · split at h
    · rename_i hc
      exact lv_icmp_le X.1 X.2.1 hd ht (fun _ => k _ _ _ _ h H locs ls hP hS hL) (fun q => absurd hc q)
    · rename_i hc
      exact lv_icmp_le X.1 X.2.1 hd ht (fun q => absurd q hc) (fun _ => k _ _ _ _ h H locs ls hP hS hL)
  · cases h
theorem s_goto (X : Cx p R s m args c cc nL own D C A ad sh E) {pc t : Nat} {off : Int} (hd : decode cc pc = .ok (.goto off, 3)) (ht : (pc : Int) + off = (t : Int)) : SS p l e R s m args below meth c cells slots Q D C A ad sh nL cc rt pc (o_goto t) := by
  intro go L st g o h ok k H locs ls hP hS hL
  exact lv_goto X.1 X.2.1 hd ht (k _ _ _ _ h H locs ls hP hS hL)
theorem swG_in {go : Ct} {L : Lc} {r : List AV} {g : Sg} {x : Int32} {d : Nat} {o : Ou} : ∀ (ps : List (Int32 × Nat)), swG go L r g x d ps = some o → (∃ q ∈ ps, x = q.1 ∧ go q.2 L r g = some o) ∨ ((∀ q ∈ ps, ¬ x = q.1) ∧ go d L r g = some o)
  | [], h => Or.inr ⟨fun _ h => absurd h List.not_mem_nil, h⟩
  | q :: t, h => by
    unfold swG at h
    split at h
    · rename_i hc
      exact Or.inl ⟨q, List.mem_cons_self, hc, h⟩
    · rename_i hc
      rcases swG_in t h with ⟨q', h1, h2⟩ | ⟨h1, h2⟩
      · exact Or.inl ⟨q', List.mem_cons_of_mem _ h1, h2⟩
      · exact Or.inr ⟨fun z hz => (List.mem_cons.mp hz).elim (fun e => by rw [e]; exact hc) (h1 z), h2⟩
theorem s_table (X : Cx p R s m args c cc nL own D C A ad sh E) {pc d len : Nat} {df lo hi : Int} {offs : Array Int} {ps : List (Int32 × Nat)} (hd : decode cc pc = .ok (.tableswitch df lo hi offs, len)) (hdf : (pc : Int) + df = (d : Int)) (h1 : ∀ q ∈ ps, ¬ q.1.toInt < lo ∧ ¬ hi < q.1.toInt ∧ (offs[(q.1.toInt - lo).toNat]?).map (fun z => (pc : Int) + z) = some (q.2 : Int)) (h2 : ∀ i : Nat, i < (hi - lo + 1).toNat → ∃ q ∈ ps, q.1.toInt = lo + i) : SS p l e R s m args below meth c cells slots Q D C A ad sh nL cc rt pc (o_sw d ps) := by
  intro go L st g o h ok k H locs ls hP hS hL
  unfold o_sw at h
  split at h
  · rename_i x r
    rcases swG_in ps h with ⟨q, hq, hx, hg⟩ | ⟨hn, hg⟩
    · obtain ⟨a1, a2, a3⟩ := h1 q hq
      cases ho : offs[(q.1.toInt - lo).toNat]? with
      | none => simp [ho] at a3
      | some off =>
        simp [ho] at a3
        subst hx
        exact lv_tableIn X.1 X.2.1 hd a1 a2 ho a3 (k _ _ _ _ hg H locs ls hP hS hL)
    · refine lv_tableOut X.1 X.2.1 hd ?_ hdf (k _ _ _ _ hg H locs ls hP hS hL)
      rcases Int.lt_or_le x.toInt lo with q | q
      · exact Or.inl q
      · rcases Int.lt_or_le hi x.toInt with q' | q'
        · exact Or.inr q'
        · obtain ⟨z, hz, e⟩ := h2 (x.toInt - lo).toNat (by omega)
          exact absurd (Int32.toInt_inj.mp (by rw [e]; omega)) (hn z hz)
  · cases h
theorem s_lookup (X : Cx p R s m args c cc nL own D C A ad sh E) {pc d len : Nat} {df : Int} {prs : Array (Int × Int)} {ps : List (Int32 × Nat)} (hd : decode cc pc = .ok (.lookupswitch df prs, len)) (hs : (prs.toList.zip (prs.toList.drop 1)).all (fun (a, next) => a.1 < next.1) = true) (hdf : (pc : Int) + df = (d : Int)) (h1 : ∀ q ∈ ps, (pc : Int) + Op.lookupswitch.offset prs.toList df q.1.toInt = (q.2 : Int)) (h2 : ∀ x : Int32, (∀ q ∈ ps, ¬ x = q.1) → Op.lookupswitch.offset prs.toList df x.toInt = df) : SS p l e R s m args below meth c cells slots Q D C A ad sh nL cc rt pc (o_sw d ps) := by
  intro go L st g o h ok k H locs ls hP hS hL
  unfold o_sw at h
  split at h
  · rename_i x r
    rcases swG_in ps h with ⟨q, hq, hx, hg⟩ | ⟨hn, hg⟩
    · subst hx
      exact lv_lookup X.1 X.2.1 hd hs rfl (h1 q hq) (k _ _ _ _ hg H locs ls hP hS hL)
    · exact lv_lookup X.1 X.2.1 hd hs (h2 x hn) hdf (k _ _ _ _ hg H locs ls hP hS hL)
  · cases h
theorem s_getI (X : Cx p R s m args c cc nL own D C A ad sh E) {CN : String} {T : u_T} {N ci idx j pc : Nat} (hd : decode cc pc = .ok (.getfield idx, 3)) (hin : ∀ w ∈ u_ws CN T N, w ∈ TB) (hc : vwCl[ci]? = some (CN, T, N)) (hj : j < N) (hl : Cond.fieldLink own idx (T j).1 (T j).2.1 (T j).2.2.1 ∈ TB) (hk : (fk ci)[j]? = some false) : SS p l e R s m args below meth c cells slots Q D C A ad sh nL cc rt pc (o_gI sh (pc + 3) ci j) := by
  intro go L st g o h ok k H locs ls hP hS hL
  obtain ⟨hx, hb, hml, ho, hts, -, hK, -⟩ := X
  unfold o_gI at h
  split at h
  · rename_i q r
    split at h
    · rename_i ci' rs hq
      split at h
      · rename_i e
        subst e
        exact va_get hx hb hts hin ho hK hP q (cW_get hq) hc j hj (hts _ hl) (fun _ h9 => h9) (cf_get hk) hd (k _ _ _ _ h H locs ls hP hS hL)
      · cases h
    · cases h
  · cases h
theorem s_getR (X : Cx p R s m args c cc nL own D C A ad sh E) {CN : String} {T : u_T} {N ci idx j pc : Nat} (hd : decode cc pc = .ok (.getfield idx, 3)) (hin : ∀ w ∈ u_ws CN T N, w ∈ TB) (hc : vwCl[ci]? = some (CN, T, N)) (hj : j < N) (hl : Cond.fieldLink own idx (T j).1 (T j).2.1 (T j).2.2.1 ∈ TB) (hk : (fk ci)[j]? = some true) : SS p l e R s m args below meth c cells slots Q D C A ad sh nL cc rt pc (o_gR sh (pc + 3) ci j) := by
  intro go L st g o h ok k H locs ls hP hS hL
  obtain ⟨hx, hb, hml, ho, hts, -, hK, -⟩ := X
  unfold o_gR at h
  split at h
  · rename_i q r
    split at h
    · rename_i ci' rs hq
      split at h
      · rename_i e
        subst e
        exact va_get hx hb hts hin ho hK hP q (cW_get hq) hc j hj (hts _ hl) (fun _ h9 => h9) (cf_get hk) hd (k _ _ _ _ h H locs ls hP hS hL)
      · cases h
    · cases h
  · cases h
theorem s_putI (X : Cx p R s m args c cc nL own D C A ad sh E) {CN : String} {T : u_T} {N ci idx j pc : Nat} (hd : decode cc pc = .ok (.putfield idx, 3)) (hin : ∀ w ∈ u_ws CN T N, w ∈ TB) (ty0 : Nat → FieldType) (hty : ∀ k, k < N → parseFieldDescriptor (T k).2.2.1 = some (ty0 k)) (hnm : ∀ a, a < N → ∀ b, b < N → a ≠ b → (T a).2.1 ≠ (T b).2.1) (hc : vwCl[ci]? = some (CN, T, N)) (hj : j < N) (hl : Cond.fieldLink own idx (T j).1 (T j).2.1 (T j).2.2.1 ∈ TB) (hk : (fk ci)[j]? = some false) (hfin : (T j).2.2.2 = false) (hdt : parseFieldDescriptor (T j).2.2.1 = some .int) : SS p l e R s m args below meth c cells slots Q D C A ad sh nL cc rt pc (o_pI sh (pc + 3) ci j) := by
  intro go L st g o h ok k H locs ls hP hS hL
  obtain ⟨hx, hb, hml, ho, hts, -, hK, -, hD, -⟩ := X
  unfold o_pI at h
  split at h
  · rename_i v q r
    split at h
    · rename_i ci' rs hq
      split at h
      · rename_i e
        subst e
        refine va_put hx hb hts hin ty0 hty hnm ho hK hP (hD g) hS q (cW_get hq) hc j hj (hts _ hl) (fun _ h9 => h9) hfin (v := .int v) hdt rfl rfl (by rw [cf_len]; exact (List.getElem?_eq_some_iff.mp hk).1) hd (fun H1 locs1 hP1 hD1 hS1 => ?_)
        rw [cf_set hk] at hP1
        have e2 := cW_set (ad := ad) (C := C) (g := g) (f := upd (g q) j v) hq
        change va_P D vwCl ((cW ad C sh g).set q (ad q, cE ad C (upd (g q) j v) (3, ci', rs))) H1 at hP1
        rw [e2] at hP1
        exact k _ _ _ _ h H1 locs1 ls hP1 hS1 hL
      · cases h
    · cases h
  · cases h
theorem isB_cases {v : Int32} (h : isB v = true) : v = 0 ∨ v = 1 := by
  unfold isB at h
  simpa using h
theorem isB_nar {v : Int32} (h : isB v = true) : narrow .boolean (.int v) = .int v ∧ fits .boolean (.int v) = true := by
  rcases isB_cases h with e | e <;> subst e <;> exact ⟨rfl, rfl⟩
theorem s_putZ (X : Cx p R s m args c cc nL own D C A ad sh E) {CN : String} {T : u_T} {N ci idx j pc : Nat} (hd : decode cc pc = .ok (.putfield idx, 3)) (hin : ∀ w ∈ u_ws CN T N, w ∈ TB) (ty0 : Nat → FieldType) (hty : ∀ k, k < N → parseFieldDescriptor (T k).2.2.1 = some (ty0 k)) (hnm : ∀ a, a < N → ∀ b, b < N → a ≠ b → (T a).2.1 ≠ (T b).2.1) (hc : vwCl[ci]? = some (CN, T, N)) (hj : j < N) (hl : Cond.fieldLink own idx (T j).1 (T j).2.1 (T j).2.2.1 ∈ TB) (hk : (fk ci)[j]? = some false) (hfin : (T j).2.2.2 = false) (hdt : parseFieldDescriptor (T j).2.2.1 = some .boolean) : SS p l e R s m args below meth c cells slots Q D C A ad sh nL cc rt pc (o_pZ sh (pc + 3) ci j) := by
  intro go L st g o h ok k H locs ls hP hS hL
  obtain ⟨hx, hb, hml, ho, hts, -, hK, -, hD, -⟩ := X
  unfold o_pZ at h
  split at h
  · rename_i v q r
    split at h
    · rename_i ci' rs hq
      split at h
      · rename_i e
        subst e
        split at h
        · rename_i hB
          refine va_put hx hb hts hin ty0 hty hnm ho hK hP (hD g) hS q (cW_get hq) hc j hj (hts _ hl) (fun _ h9 => h9) hfin (v := .int v) hdt (isB_nar hB).1 (isB_nar hB).2 (by rw [cf_len]; exact (List.getElem?_eq_some_iff.mp hk).1) hd (fun H1 locs1 hP1 hD1 hS1 => ?_)
          rw [cf_set hk] at hP1
          have e2 := cW_set (ad := ad) (C := C) (g := g) (f := upd (g q) j v) hq
          change va_P D vwCl ((cW ad C sh g).set q (ad q, cE ad C (upd (g q) j v) (3, ci', rs))) H1 at hP1
          rw [e2] at hP1
          exact k _ _ _ _ h H1 locs1 ls hP1 hS1 hL
        · cases h
      · cases h
    · cases h
  · cases h
theorem s_gets (X : Cx p R s m args c cc nL own D C A ad sh E) {idx pc : Nat} (hd : decode cc pc = .ok (.getstatic idx, 3)) (hl : Cond.fieldLink own idx RX4 "FIVES" "[I" ∈ TB) : SS p l e R s m args below meth c cells slots Q D C A ad sh nL cc rt pc (o_gs (pc + 3)) := by
  intro go L st g o h ok k H locs ls hP hS hL
  obtain ⟨hx, hb, hml, ho, hts, -, hK, -, hD, hZ, -⟩ := X
  exact va_gets hx hb hZ hS ho (hts _ hl) (fun _ h9 => h9) hd (k _ _ _ _ h H locs ls hP hS hL)
theorem s_getsN (X : Cx p R s m args c cc nL own D C A ad sh E) {idx pc : Nat} (hd : decode cc pc = .ok (.getstatic idx, 3)) (hl : Cond.fieldLinkNest own idx RX4 "FIVES" "[I" RX4 ∈ NW) : SS p l e R s m args below meth c cells slots Q D C A ad sh nL cc rt pc (o_gs (pc + 3)) := by
  intro go L st g o h ok k H locs ls hP hS hL
  obtain ⟨hx, hb, hml, ho, hts, hn, hK, -, hD, hZ, -⟩ := X
  exact va_getsN hx hb hZ hS ho (va_Nw.use rfl (hn _ hl)) (fun _ h9 => h9) hd (k _ _ _ _ h H locs ls hP hS hL)
theorem s_iald (X : Cx p R s m args c cc nL own D C A ad sh E) {pc : Nat} (hd : decode cc pc = .ok (.iaload, 1)) : SS p l e R s m args below meth c cells slots Q D C A ad sh nL cc rt pc (o_ia sh E (pc + 1)) := by
  intro go L st g o h ok k H locs ls hP hS hL
  obtain ⟨hx, hb, hml, ho, hts, -, hK, -, hD, hZ, hT, hU⟩ := X
  unfold o_ia at h
  split at h
  · rename_i i q r
    split at h
    · rename_i n rs hq
      split at h
      · rename_i hi
        exact va_iald hx hb hK hP q 0 (cW_get hq) rfl (inB_in hi) hd (k _ _ _ _ h H locs ls hP hS hL)
      · cases h
    · cases h
    · split at h
      · rename_i e
        subst e
        split at h
        · rename_i hi
          exact va_ti hx hb hT hS (inB_in hi) rfl hd (k _ _ _ _ h H locs ls hP hS hL)
        · cases h
      · split at h
        · rename_i e
          subst e
          split at h
          · rename_i hi
            exact va_ti hx hb hU hS (inB_in hi) rfl hd (k _ _ _ _ h H locs ls hP hS hL)
          · cases h
        · cases h
  · cases h
theorem s_iast (X : Cx p R s m args c cc nL own D C A ad sh E) {pc : Nat} (hd : decode cc pc = .ok (.iastore, 1)) : SS p l e R s m args below meth c cells slots Q D C A ad sh nL cc rt pc (o_is_ sh (pc + 1)) := by
  intro go L st g o h ok k H locs ls hP hS hL
  obtain ⟨hx, hb, hml, ho, hts, -, hK, -, hD, hZ, hT, hU⟩ := X
  unfold o_is_ at h
  split at h
  · rename_i x i q r
    split at h
    · rename_i n rs hq
      split at h
      · rename_i hi
        refine va_iast hx hb hK hP (hD g) hS q 0 (cW_get hq) rfl (inB_in hi) hd (fun H1 locs1 hP1 hD1 hS1 => ?_)
        have e2 := cW_set (ad := ad) (C := C) (g := g) (f := upd (g q) i.toNatClampNeg x) hq
        change va_P D vwCl ((cW ad C sh g).set q (ad q, cE ad C (upd (g q) i.toNatClampNeg x) (0, n, rs))) H1 at hP1
        rw [e2] at hP1
        exact k _ _ _ _ h H1 locs1 ls hP1 hS1 hL
      · cases h
    · cases h
  · cases h
theorem s_zald (X : Cx p R s m args c cc nL own D C A ad sh E) {pc : Nat} (hd : decode cc pc = .ok (.baload, 1)) : SS p l e R s m args below meth c cells slots Q D C A ad sh nL cc rt pc (o_za sh (pc + 1)) := by
  intro go L st g o h ok k H locs ls hP hS hL
  obtain ⟨hx, hb, hml, ho, hts, -, hK, -, hD, hZ, hT, hU⟩ := X
  unfold o_za at h
  split at h
  · rename_i i q r
    split at h
    · rename_i n rs hq
      split at h
      · rename_i hi
        exact va_zald hx hb hK hP q 1 (cW_get hq) rfl (inB_in hi) hd (k _ _ _ _ h H locs ls hP hS hL)
      · cases h
    · cases h
  · cases h
theorem s_zast (X : Cx p R s m args c cc nL own D C A ad sh E) {pc : Nat} (hd : decode cc pc = .ok (.bastore, 1)) : SS p l e R s m args below meth c cells slots Q D C A ad sh nL cc rt pc (o_zs sh (pc + 1)) := by
  intro go L st g o h ok k H locs ls hP hS hL
  obtain ⟨hx, hb, hml, ho, hts, -, hK, -, hD, hZ, hT, hU⟩ := X
  unfold o_zs at h
  split at h
  · rename_i x i q r
    split at h
    · rename_i n rs hq
      split at h
      · rename_i hi
        split at h
        · rename_i hB
          refine va_zast hx hb hK hP (hD g) hS q 1 (cW_get hq) rfl (inB_in hi) hd (fun H1 locs1 hP1 hD1 hS1 => ?_)
          have e1 : vp_nar .boolean x = x := by rcases isB_cases hB with e | e <;> subst e <;> rfl
          rw [e1] at hP1
          have e2 := cW_set (ad := ad) (C := C) (g := g) (f := upd (g q) i.toNatClampNeg x) hq
          change va_P D vwCl ((cW ad C sh g).set q (ad q, cE ad C (upd (g q) i.toNatClampNeg x) (1, n, rs))) H1 at hP1
          rw [e2] at hP1
          exact k _ _ _ _ h H1 locs1 ls hP1 hS1 hL
        · cases h
      · cases h
    · cases h
  · cases h
theorem s_aald (X : Cx p R s m args c cc nL own D C A ad sh E) {pc : Nat} (hd : decode cc pc = .ok (.aaload, 1)) : SS p l e R s m args below meth c cells slots Q D C A ad sh nL cc rt pc (o_ra sh (pc + 1)) := by
  intro go L st g o h ok k H locs ls hP hS hL
  obtain ⟨hx, hb, hml, ho, hts, -, hK, -, hD, hZ, hT, hU⟩ := X
  unfold o_ra at h
  split at h
  · rename_i i q r
    split at h
    · rename_i n rs hq
      split at h
      · rename_i hi
        exact va_aldq hx hb hK hP q 2 (cW_get hq) rfl (inB_in hi) hd (k _ _ _ _ h H locs ls hP hS hL)
      · cases h
    · cases h
  · cases h
theorem s_alen (X : Cx p R s m args c cc nL own D C A ad sh E) {pc : Nat} (hd : decode cc pc = .ok (.arraylength, 1)) : SS p l e R s m args below meth c cells slots Q D C A ad sh nL cc rt pc (o_len sh E (pc + 1)) := by
  intro go L st g o h ok k H locs ls hP hS hL
  obtain ⟨hx, hb, hml, ho, hts, -, hK, -, hD, hZ, hT, hU⟩ := X
  unfold o_len at h
  split at h
  · rename_i q r
    split at h
    · rename_i n rs hq
      exact va_alen hx hb hK hP q 0 (cW_get hq) rfl rfl hd (k _ _ _ _ h H locs ls hP hS hL)
    · cases h
    · split at h
      · rename_i e
        subst e
        exact va_tlen hx hb hU hS rfl hd (k _ _ _ _ h H locs ls hP hS hL)
      · cases h
  · cases h
theorem s_copy (X : Cx p R s m args c cc nL own D C A ad sh E) {pc idx : Nat} (hd : decode cc pc = .ok (.invokestatic idx, 3)) (hl : Cond.methodLink own idx arraycopyName ∈ TB) (h1 : Cond.native arraycopyName ∈ TB) (h2 : Cond.static arraycopyName ∈ TB) (h3 : Cond.initialized "java/lang/System" ∈ TB) (hR : 1 ≤ R.frames ∧ 100 ≤ R.locals) : SS p l e R s m args below meth c cells slots Q D C A ad sh nL cc rt pc (o_copy sh (pc + 3)) := by
  intro go L st g o h ok k H locs ls hP hS hL
  obtain ⟨hx, hb, hml, ho, hts, -, hK, -, hD, hZ, hT, hU⟩ := X
  unfold o_copy at h
  split at h
  · rename_i n dp d sp q
    split at h
    · rename_i n0 r0 n1 r1 hq hdq
      split at h
      · rename_i hc
        obtain ⟨⟨c1, c2, c3⟩, c4, c5⟩ := hc
        refine va_copyi hx hb (by rw [hml, hL.1]) ho (hts _ hl) (hts _ h1) (hts _ h2) (hts _ h3) hK hP (hD g) hS q d 0 0 (cW_get hq) (cW_get hdq) rfl rfl rfl (Int32.not_lt.mpr c1) (Int32.not_lt.mpr c2) (Int32.not_lt.mpr c3) c4 c5 (fun _ _ => rfl) hR.1 (Nat.le_trans (show 0 + (nativeFrameWords "java/lang/System" "arraycopy" 5 + 11) ≤ 100 by decide) hR.2) hd (fun H1 locs1 hP1 hD1 hS1 => ?_)
        have e2 := cW_set (ad := ad) (C := C) (g := g) (f := va_cpy (g q) (g d) sp.toNatClampNeg dp.toNatClampNeg n.toNatClampNeg) hdq
        change va_P D vwCl ((cW ad C sh g).set d (ad d, cE ad C (va_cpy (g q) (g d) sp.toNatClampNeg dp.toNatClampNeg n.toNatClampNeg) (0, n1, r1))) H1 at hP1
        rw [e2] at hP1
        exact k _ _ _ _ h H1 locs1 ls hP1 hS1 hL
      · cases h
    · cases h
  · cases h
theorem s_ret (hr : rt = some .int) {pc : Nat} (hd : decode cc pc = .ok (.ireturn, 1)) : SS p l e R s m args below meth c cells slots Q D C A ad sh nL cc rt pc o_ret := by
  intro go L st g o h ok k H locs ls hP hS hL
  unfold o_ret at h
  split at h
  · rename_i v
    cases h
    exact ok _ _ rfl pc H locs ls (fun q => by cases q) (fun w hw => ⟨hd, ⟨v, by cases hw; rfl⟩, fun q => by rw [hr] at q; cases q⟩) hP hS
  · cases h
theorem s_retZ {pc : Nat} (hd : decode cc pc = .ok (.ireturn, 1)) : SS p l e R s m args below meth c cells slots Q D C A ad sh nL cc rt pc o_retZ := by
  intro go L st g o h ok k H locs ls hP hS hL
  unfold o_retZ at h
  split at h
  · rename_i v
    split at h
    · rename_i hB
      cases h
      exact ok _ _ rfl pc H locs ls (fun q => by cases q) (fun w hw => ⟨hd, ⟨v, by cases hw; rfl⟩, fun _ x hx => by cases hw; cases hx; exact hB⟩) hP hS
    · cases h
  · cases h
theorem s_retV {pc : Nat} (hd : decode cc pc = .ok (.return_, 1)) : SS p l e R s m args below meth c cells slots Q D C A ad sh nL cc rt pc o_retV := by
  intro go L st g o h ok k H locs ls hP hS hL
  unfold o_retV at h
  split at h
  · cases h
    exact ok _ _ rfl pc H locs ls (fun _ => hd) (fun w hw => by cases hw) hP hS
  · cases h
end STEPS
