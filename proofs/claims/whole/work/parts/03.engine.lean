/-! THE ENGINE: a small machine of steps over whole numbers; a method is a table of steps, a run of it is a value; that the bytecode does the same is proved once, step by step. -/
abbrev AV : Type := Int32 ⊕ Option Nat
abbrev Sg : Type := Nat → Nat → Int32
abbrev Lc : Type := List (Option AV)
abbrev Ou : Type := (Option AV × Sg) ⊕ (Nat × Lc × List AV × Sg)
abbrev Ct : Type := Nat → Lc → List AV → Sg → Option Ou
abbrev Stq : Type := Ct → Lc → List AV → Sg → Option Ou
abbrev Mf : Type := (List AV → Sg → Bool) × (List AV → Sg → Option AV × Sg)
abbrev Cl : Type := Nat × Nat × List (Option Nat)
abbrev Shp : Type := List Cl
abbrev Ex : Type := Nat × (Nat → Int32)
abbrev CI3 : Type := ClassId × ClassId × ClassId
def nth : Lc → Nat → Option AV
  | [], _ => none
  | a :: _, 0 => a
  | _ :: t, n + 1 => nth t n
def stL : Lc → Nat → AV → Lc
  | [], 0, v => [some v]
  | [], n + 1, v => none :: stL [] n v
  | _ :: t, 0, v => some v :: t
  | a :: t, n + 1, v => a :: stL t n v
def shAt : Shp → Nat → Option Cl
  | [], _ => none
  | a :: _, 0 => some a
  | _ :: t, n + 1 => shAt t n
def rfAt : List (Option Nat) → Nat → Option Nat
  | [], _ => none
  | a :: _, 0 => a
  | _ :: t, n + 1 => rfAt t n
def tk : Nat → Lc → Lc
  | 0, _ => []
  | _ + 1, [] => []
  | n + 1, a :: t => a :: tk n t
def us (g : Sg) (k : Nat) (f : Nat → Int32) : Sg := fun a => if a = k then f else g a
def inB (i : Int32) (n : Nat) : Bool := !(decide (i < 0) || decide (n ≤ i.toNatClampNeg))
def isB (v : Int32) : Bool := decide (v = 0) || decide (v = 1)
def fiv : Nat → Int32
  | 0 => 1
  | 1 => 5
  | 2 => 25
  | 3 => 125
  | _ => 625
def pk : Nat → List AV → List AV → Option (List AV × List AV)
  | 0, acc, st => some (acc, st)
  | n + 1, acc, v :: st => pk n (v :: acc) st
  | _ + 1, _, [] => none
-- the steps
def o_ic (nx : Nat) (v : Int32) : Stq := fun go L st g => go nx L (.inl v :: st) g
def o_il (nx i : Nat) : Stq := fun go L st g => match nth L i with
  | some (.inl x) => go nx L (.inl x :: st) g
  | _ => none
def o_al (nx i : Nat) : Stq := fun go L st g => match nth L i with
  | some (.inr (some x)) => go nx L (.inr (some x) :: st) g
  | _ => none
def o_is (nx i : Nat) : Stq := fun go L st g => match st with
  | .inl x :: r => go nx (stL L i (.inl x)) r g
  | _ => none
def o_inc (nx i : Nat) (d : Int32) : Stq := fun go L st g => match nth L i with
  | some (.inl x) => go nx (stL L i (.inl (x + d))) st g
  | _ => none
def o_b2 (nx : Nat) (h : Int32 → Int32 → Int32) : Stq := fun go L st g => match st with
  | .inl y :: .inl x :: r => go nx L (.inl (h x y) :: r) g
  | _ => none
def o_div (nx : Nat) : Stq := fun go L st g => match st with
  | .inl y :: .inl x :: r => if y = 0 then none else go nx L (.inl (x / y) :: r) g
  | _ => none
def o_rem (nx : Nat) : Stq := fun go L st g => match st with
  | .inl y :: .inl x :: r => if y = 0 then none else go nx L (.inl (x - x / y * y) :: r) g
  | _ => none
def o_dup (nx : Nat) : Stq := fun go L st g => match st with
  | v :: r => go nx L (v :: v :: r) g
  | _ => none
def o_dup2 (nx : Nat) : Stq := fun go L st g => match st with
  | v :: w :: r => go nx L (v :: w :: v :: w :: r) g
  | _ => none
def o_eq0 (t nx : Nat) : Stq := fun go L st g => match st with
  | .inl x :: r => if x = 0 then go t L r g else go nx L r g
  | _ => none
def o_ne0 (t nx : Nat) : Stq := fun go L st g => match st with
  | .inl x :: r => if x = 0 then go nx L r g else go t L r g
  | _ => none
def o_lt0 (t nx : Nat) : Stq := fun go L st g => match st with
  | .inl x :: r => if x < 0 then go t L r g else go nx L r g
  | _ => none
def o_ge0 (t nx : Nat) : Stq := fun go L st g => match st with
  | .inl x :: r => if 0 ≤ x then go t L r g else go nx L r g
  | _ => none
def o_gt0 (t nx : Nat) : Stq := fun go L st g => match st with
  | .inl x :: r => if 0 < x then go t L r g else go nx L r g
  | _ => none
def o_le0 (t nx : Nat) : Stq := fun go L st g => match st with
  | .inl x :: r => if x ≤ 0 then go t L r g else go nx L r g
  | _ => none
def o_eq (t nx : Nat) : Stq := fun go L st g => match st with
  | .inl y :: .inl x :: r => if x = y then go t L r g else go nx L r g
  | _ => none
def o_ne (t nx : Nat) : Stq := fun go L st g => match st with
  | .inl y :: .inl x :: r => if x = y then go nx L r g else go t L r g
  | _ => none
def o_lt (t nx : Nat) : Stq := fun go L st g => match st with
  | .inl y :: .inl x :: r => if x < y then go t L r g else go nx L r g
  | _ => none
def o_ge (t nx : Nat) : Stq := fun go L st g => match st with
  | .inl y :: .inl x :: r => if y ≤ x then go t L r g else go nx L r g
  | _ => none
def o_gt (t nx : Nat) : Stq := fun go L st g => match st with
  | .inl y :: .inl x :: r => if y < x then go t L r g else go nx L r g
  | _ => none
def o_le (t nx : Nat) : Stq := fun go L st g => match st with
  | .inl y :: .inl x :: r => if x ≤ y then go t L r g else go nx L r g
  | _ => none
def o_goto (t : Nat) : Stq := fun go L st g => go t L st g
def swG (go : Ct) (L : Lc) (r : List AV) (g : Sg) (x : Int32) (d : Nat) : List (Int32 × Nat) → Option Ou
  | [] => go d L r g
  | q :: t => if x = q.1 then go q.2 L r g else swG go L r g x d t
def o_sw (d : Nat) (ps : List (Int32 × Nat)) : Stq := fun go L st g => match st with
  | .inl x :: r => swG go L r g x d ps
  | _ => none
def o_gI (sh : Shp) (nx ci k : Nat) : Stq := fun go L st g => match st with
  | .inr (some q) :: r => (match shAt sh q with
    | some (3, ci', _) => if ci' = ci then go nx L (.inl (g q k) :: r) g else none
    | _ => none)
  | _ => none
def o_gR (sh : Shp) (nx ci k : Nat) : Stq := fun go L st g => match st with
  | .inr (some q) :: r => (match shAt sh q with
    | some (3, ci', rs) => if ci' = ci then go nx L (.inr (rfAt rs k) :: r) g else none
    | _ => none)
  | _ => none
def o_pI (sh : Shp) (nx ci k : Nat) : Stq := fun go L st g => match st with
  | .inl v :: .inr (some q) :: r => (match shAt sh q with
    | some (3, ci', _) => if ci' = ci then go nx L r (us g q (upd (g q) k v)) else none
    | _ => none)
  | _ => none
def o_pZ (sh : Shp) (nx ci k : Nat) : Stq := fun go L st g => match st with
  | .inl v :: .inr (some q) :: r => (match shAt sh q with
    | some (3, ci', _) => if ci' = ci then (if isB v = true then go nx L r (us g q (upd (g q) k v)) else none) else none
    | _ => none)
  | _ => none
def o_gs (nx : Nat) : Stq := fun go L st g => go nx L (.inr (some 1000000) :: st) g
def o_ia (sh : Shp) (E : Ex) (nx : Nat) : Stq := fun go L st g => match st with
  | .inl i :: .inr (some q) :: r => (match shAt sh q with
    | some (0, n, _) => if inB i n = true then go nx L (.inl (g q i.toNatClampNeg) :: r) g else none
    | some _ => none
    | none => if q = 1000000 then (if inB i 5 = true then go nx L (.inl (fiv i.toNatClampNeg) :: r) g else none)
        else if q = 1000001 then (if inB i E.1 = true then go nx L (.inl (E.2 i.toNatClampNeg) :: r) g else none) else none)
  | _ => none
def o_is_ (sh : Shp) (nx : Nat) : Stq := fun go L st g => match st with
  | .inl x :: .inl i :: .inr (some q) :: r => (match shAt sh q with
    | some (0, n, _) => if inB i n = true then go nx L r (us g q (upd (g q) i.toNatClampNeg x)) else none
    | _ => none)
  | _ => none
def o_za (sh : Shp) (nx : Nat) : Stq := fun go L st g => match st with
  | .inl i :: .inr (some q) :: r => (match shAt sh q with
    | some (1, n, _) => if inB i n = true then go nx L (.inl (g q i.toNatClampNeg) :: r) g else none
    | _ => none)
  | _ => none
def o_zs (sh : Shp) (nx : Nat) : Stq := fun go L st g => match st with
  | .inl x :: .inl i :: .inr (some q) :: r => (match shAt sh q with
    | some (1, n, _) => if inB i n = true then (if isB x = true then go nx L r (us g q (upd (g q) i.toNatClampNeg x)) else none) else none
    | _ => none)
  | _ => none
def o_ra (sh : Shp) (nx : Nat) : Stq := fun go L st g => match st with
  | .inl i :: .inr (some q) :: r => (match shAt sh q with
    | some (2, _, rs) => if inB i rs.length = true then go nx L (.inr (rfAt rs i.toNatClampNeg) :: r) g else none
    | _ => none)
  | _ => none
def o_len (sh : Shp) (E : Ex) (nx : Nat) : Stq := fun go L st g => match st with
  | .inr (some q) :: r => (match shAt sh q with
    | some (0, n, _) => go nx L (.inl (Int32.ofNat n) :: r) g
    | some _ => none
    | none => if q = 1000001 then go nx L (.inl (Int32.ofNat E.1) :: r) g else none)
  | _ => none
def o_call (env : Nat → Mf) (nx j n : Nat) : Stq := fun go L st g => match pk n [] st with
  | some (as, r) => (match Nat.ble r.length 8 with
    | true => if (env j).1 as g = true then go nx L (((env j).2 as g).1.toList ++ r) ((env j).2 as g).2 else none
    | false => none)
  | none => none
def o_copy (sh : Shp) (nx : Nat) : Stq := fun go L st g => match st with
  | .inl n :: .inl dp :: .inr (some d) :: .inl sp :: .inr (some q) :: [] => (match shAt sh q, shAt sh d with
    | some (0, n0, _), some (0, n1, _) => if (0 ≤ sp ∧ 0 ≤ dp ∧ 0 ≤ n) ∧ sp.toNatClampNeg + n.toNatClampNeg ≤ n0 ∧ dp.toNatClampNeg + n.toNatClampNeg ≤ n1 then go nx L [] (us g d (va_cpy (g q) (g d) sp.toNatClampNeg dp.toNatClampNeg n.toNatClampNeg)) else none
    | _, _ => none)
  | _ => none
def o_ret : Stq := fun _ _ st g => match st with
  | [.inl v] => some (.inl (some (.inl v), g))
  | _ => none
def o_retZ : Stq := fun _ _ st g => match st with
  | [.inl v] => if isB v = true then some (.inl (some (.inl v), g)) else none
  | _ => none
def o_retV : Stq := fun _ _ st g => match st with
  | [] => some (.inl (none, g))
  | _ => none
-- runs
def ft : List (Nat × Stq) → Nat → Option Stq
  | [], _ => none
  | a :: t, n => match Nat.beq a.1 n with
    | true => some a.2
    | false => ft t n
def cu : List (Nat × Nat) → Nat → Option Nat
  | [], _ => none
  | a :: t, n => match Nat.beq a.1 n with
    | true => some a.2
    | false => cu t n
def seg (T : List (Nat × Stq)) (K : List (Nat × Nat)) : Nat → Ct
  | 0 => fun _ _ _ _ => none
  | n + 1 => fun pc L st g => match ft T pc with
    | none => none
    | some f => f (fun pc' L' st' g' => match cu K pc' with
      | some k => some (.inr (pc', tk k L', st', g'))
      | none => seg T K n pc' L' st' g') L st g
def rn (T : List (Nat × Stq)) (K : List (Nat × Nat)) : Nat → Nat → Lc → List AV → Sg → Option (Option AV × Sg)
  | 0, _, _, _, _ => none
  | n + 1, pc, L, st, g => match seg T K 2000 pc L st g with
    | some (.inl o) => some o
    | some (.inr (pc', L', st', g')) => rn T K n pc' L' st' g'
    | none => none
def Rn (T : List (Nat × Stq)) (K : List (Nat × Nat)) (pc : Nat) (L : Lc) (st : List AV) (g : Sg) (o : Option AV × Sg) : Prop := ∃ n, rn T K n pc L st g = some o
theorem Rn_ret {T : List (Nat × Stq)} {K : List (Nat × Nat)} {pc : Nat} {L : Lc} {st : List AV} {g : Sg} {o : Option AV × Sg} (h : seg T K 2000 pc L st g = some (.inl o)) : Rn T K pc L st g o := ⟨1, by simp [rn, h]⟩
theorem Rn_go {T : List (Nat × Stq)} {K : List (Nat × Nat)} {pc pc' : Nat} {L L' : Lc} {st st' : List AV} {g g' : Sg} {o : Option AV × Sg} (h : seg T K 2000 pc L st g = some (.inr (pc', L', st', g'))) (k : Rn T K pc' L' st' g' o) : Rn T K pc L st g o := by
  obtain ⟨n, hn⟩ := k
  exact ⟨n + 1, by simp [rn, h, hn]⟩
-- the world
def cv (ad : Nat → Nat) : AV → Value
  | .inl x => .int x
  | .inr r => va_rf (r.map ad)
def fk : Nat → List Bool
  | 0 => [true, false, false]
  | 1 => [true, true, false, false]
  | 2 => [false, true, true, true, true, true]
  | 3 => [true, true]
  | 4 => [true, true, true, true, false, false]
  | 5 => [true, true, false, true, true, true, false, true]
  | _ => []
def cf (ad : Nat → Nat) (rs : List (Option Nat)) (f : Nat → Int32) (ks : List Bool) : List Value := ks.mapIdx (fun j b => if b = true then va_rf ((rfAt rs j).map ad) else .int (f j))
def cE (ad : Nat → Nat) (C : CI3) (f : Nat → Int32) : Cl → va_E
  | (0, n, _) => .inl (C.1, n, .inl f)
  | (1, n, _) => .inl (C.2.1, n, .inl f)
  | (2, _, rs) => .inl (C.2.2, rs.length, .inr (.inr (.inr (.inr (fun j => (rfAt rs j).map ad)))))
  | (_, ci, rs) => .inr (ci, cf ad rs f (fk ci))
def cW (ad : Nat → Nat) (C : CI3) (sh : Shp) (g : Sg) : va_W := sh.mapIdx (fun k c => (ad k, cE ad C (g k) c))
def LH (ad : Nat → Nat) (nL : Nat) (ls : Array Slot) (L : Lc) : Prop := ls.size = nL ∧ lv_wf ls ∧ ∀ (i : Nat) (v : AV), nth L i = some v → ls[i]? = some (.val (cv ad v))
def tyl (C : CI3) : List (ClassId × FieldType) := [(C.1, .int), (C.2.1, .boolean), (C.2.2, .object RX2)]
theorem shAt_eq : ∀ (sh : Shp) (k : Nat), shAt sh k = sh[k]?
  | [], _ => by simp [shAt]
  | a :: t, 0 => by simp [shAt]
  | a :: t, n + 1 => by simp [shAt, shAt_eq t n]
theorem nth_stL : ∀ (L : Lc) (i j : Nat) (v : AV), nth (stL L i v) j = if j = i then some v else nth L j
  | [], 0, 0, v => by simp [stL, nth]
  | [], 0, j + 1, v => by simp [stL, nth]
  | [], i + 1, 0, v => by simp [stL, nth]
  | [], i + 1, j + 1, v => by simp [stL, nth, nth_stL [] i j v]
  | a :: t, 0, 0, v => by simp [stL, nth]
  | a :: t, 0, j + 1, v => by simp [stL, nth]
  | a :: t, i + 1, 0, v => by simp [stL, nth]
  | a :: t, i + 1, j + 1, v => by simp [stL, nth, nth_stL t i j v]
theorem nth_tk : ∀ (k : Nat) (L : Lc) (j : Nat) (v : AV), nth (tk k L) j = some v → nth L j = some v
  | 0, L, j, v, h => by simp [tk, nth] at h
  | k + 1, [], j, v, h => by simp [tk, nth] at h
  | k + 1, a :: t, 0, v, h => by simpa [tk, nth] using h
  | k + 1, a :: t, j + 1, v, h => by
    have h' : nth (tk k t) j = some v := by simpa [tk, nth] using h
    simpa [nth] using nth_tk k t j v h'
theorem cv_cat (ad : Nat → Nat) (v : AV) : (cv ad v).category = 1 := by
  rcases v with x | r
  · rfl
  · cases r <;> rfl
theorem LH.tk {ad : Nat → Nat} {nL : Nat} {ls : Array Slot} {L : Lc} (k : Nat) (h : LH ad nL ls L) : LH ad nL ls (tk k L) := ⟨h.1, h.2.1, fun i v hv => h.2.2 i v (nth_tk k L i v hv)⟩
def lhl (ad : Nat → Nat) (nL : Nat) (L : Lc) : List (Nat × Value) := (List.range nL).filterMap (fun j => (nth L j).map (fun w => (j, cv ad w)))
theorem LH.has {ad : Nat → Nat} {nL : Nat} {ls : Array Slot} {L : Lc} (h : LH ad nL ls L) : lv_has ls nL (lhl ad nL L) := by
  refine ⟨h.1, h.2.1, fun q hq => ?_⟩
  obtain ⟨j, -, hj⟩ := List.mem_filterMap.mp hq
  cases hn : nth L j with
  | none => simp [hn] at hj
  | some w =>
    simp [hn] at hj
    rw [← hj]
    exact h.2.2 j w hn
theorem LH.stored {ad : Nat → Nat} {nL : Nat} {ls ls' : Array Slot} {L : Lc} {i : Nat} {v : AV} (h : LH ad nL ls L) (h' : lv_has ls' nL ((i, cv ad v) :: (lhl ad nL L).filter (fun q => !(q.1 == i) && !(q.1 + 1 == i && q.2.category == 2)))) : LH ad nL ls' (stL L i v) := by
  refine ⟨h'.1, h'.2.1, fun j w hw => ?_⟩
  rw [nth_stL] at hw
  by_cases hj : j = i
  · rw [if_pos hj] at hw
    cases hw
    rw [hj]
    exact h'.2.2 (i, cv ad v) List.mem_cons_self
  · rw [if_neg hj] at hw
    have hlt : j < nL := by
      have := lv_lt (h.2.2 j w hw)
      rw [h.1] at this
      exact this
    refine h'.2.2 (j, cv ad w) (List.mem_cons_of_mem _ (List.mem_filter.mpr ⟨List.mem_filterMap.mpr ⟨j, List.mem_range.mpr hlt, by simp [hw]⟩, ?_⟩))
    simp [hj, cv_cat]
theorem cW_get {ad : Nat → Nat} {C : CI3} {sh : Shp} {g : Sg} {k : Nat} {c : Cl} (h : shAt sh k = some c) : (cW ad C sh g)[k]? = some (ad k, cE ad C (g k) c) := by
  rw [shAt_eq] at h
  simp [cW, List.getElem?_mapIdx, h]
theorem cW_set {ad : Nat → Nat} {C : CI3} {sh : Shp} {g : Sg} {k : Nat} {c : Cl} {f : Nat → Int32} (h : shAt sh k = some c) : (cW ad C sh g).set k (ad k, cE ad C f c) = cW ad C sh (us g k f) := by
  rw [shAt_eq] at h
  apply List.ext_getElem?
  intro j
  have hk : k < sh.length := (List.getElem?_eq_some_iff.mp h).1
  by_cases hj : k = j
  · subst hj
    rw [List.getElem?_set_self (by simpa [cW] using hk)]
    simp [cW, List.getElem?_mapIdx, h, us]
  · rw [List.getElem?_set_ne hj]
    simp [cW, List.getElem?_mapIdx, us, Ne.symm hj]
theorem cW_len {ad : Nat → Nat} {C : CI3} {sh : Shp} {g : Sg} : (cW ad C sh g).length = sh.length := by simp [cW]
theorem cW_D {A : Nat → Prop} {ad : Nat → Nat} {C : CI3} {sh : Shp} {g g' : Sg} (h : va_D A (cW ad C sh g)) : va_D A (cW ad C sh g') := by
  have key : ∀ (i : Nat) (p : Nat × va_E), (cW ad C sh g')[i]? = some p → ∃ p', (cW ad C sh g)[i]? = some p' ∧ p'.1 = p.1 := by
    intro i p hp
    rw [cW, List.getElem?_mapIdx] at hp
    cases hs : sh[i]? with
    | none => simp [hs] at hp
    | some c =>
      refine ⟨(ad i, cE ad C (g i) c), by simp [cW, List.getElem?_mapIdx, hs], ?_⟩
      simp [hs] at hp
      rw [← hp]
  refine ⟨fun i j p q hp hq e => ?_, fun k q hq => ?_⟩
  · obtain ⟨p', h1, e1⟩ := key i p hp
    obtain ⟨q', h2, e2⟩ := key j q hq
    exact h.1 i j p' q' h1 h2 (by rw [e1, e2, e])
  · obtain ⟨q', h2, e2⟩ := key k q hq
    rw [← e2]
    exact h.2 k q' h2
theorem cW_A {ad : Nat → Nat} {C : CI3} {sh : Shp} {g g' : Sg} {sz : Nat} {q : Nat} (h : va_A (cW ad C sh g) sz q) : va_A (cW ad C sh g') sz q := by
  rcases h with ⟨k, e, h⟩ | h
  · rw [cW, List.getElem?_mapIdx] at h
    cases hs : sh[k]? with
    | none => simp [hs] at h
    | some c =>
      simp [hs] at h
      exact Or.inl ⟨k, cE ad C (g' k) c, by simp [cW, List.getElem?_mapIdx, hs, h.1]⟩
  · exact Or.inr h
theorem cf_get {ad : Nat → Nat} {rs : List (Option Nat)} {f : Nat → Int32} {ks : List Bool} {k : Nat} {b : Bool} (h : ks[k]? = some b) : (cf ad rs f ks)[k]? = some (if b = true then va_rf ((rfAt rs k).map ad) else .int (f k)) := by simp [cf, List.getElem?_mapIdx, h]
theorem cf_set {ad : Nat → Nat} {rs : List (Option Nat)} {f : Nat → Int32} {ks : List Bool} {k : Nat} {v : Int32} (h : ks[k]? = some false) : (cf ad rs f ks).set k (.int v) = cf ad rs (upd f k v) ks := by
  apply List.ext_getElem?
  intro j
  have hk : k < ks.length := (List.getElem?_eq_some_iff.mp h).1
  by_cases hj : k = j
  · subst hj
    rw [List.getElem?_set_self (by simpa [cf] using hk)]
    simp [cf, List.getElem?_mapIdx, h, upd]
  · rw [List.getElem?_set_ne hj]
    simp [cf, List.getElem?_mapIdx, upd, Ne.symm hj]
theorem cf_len {ad : Nat → Nat} {rs : List (Option Nat)} {f : Nat → Int32} {ks : List Bool} : (cf ad rs f ks).length = ks.length := by simp [cf]
theorem inB_in {i : Int32} {n : Nat} (h : inB i n = true) : vp_in i n := by
  unfold inB at h
  unfold vp_in
  simpa using h
