/-! THE ABSTRACT MACHINE: states with abstract addresses; AW: the machine at a frame, Ok: a method's contract by what comes of it. -/
abbrev xG : Type := Launch × va_G × (Nat → ClassId)
abbrev xZ : Type := List Nat × (Nat → Nat → Option Nat)
abbrev xS : Type := (Nat → Nat → Int32) × (Nat → Nat → Int64)
def xtr (ρ : Nat → Nat) (v : Value) : Value := match v with
  | .ref a => .ref (ρ a)
  | v => v
theorem xtr_int (ρ : Nat → Nat) (x : Int32) : xtr ρ (.int x) = .int x := rfl
theorem xtr_long (ρ : Nat → Nat) (x : Int64) : xtr ρ (.long x) = .long x := rfl
theorem xtr_null (ρ : Nat → Nat) : xtr ρ .null = .null := rfl
theorem xtr_ref (ρ : Nat → Nat) (a : Nat) : xtr ρ (.ref a) = .ref (ρ a) := rfl
theorem xtr_cat (ρ : Nat → Nat) (v : Value) : (xtr ρ v).category = v.category := by cases v <;> rfl
theorem xtr_rf (ρ : Nat → Nat) (r : Option Nat) : xtr ρ (va_rf r) = va_rf (r.map ρ) := by cases r <;> rfl
def xfv (ρ : Nat → Nat) (c : Nat) (r : Nat → Option Nat) (f : Nat → Int32) (g : Nat → Int64) (k : Nat) : Value :=
  if xFK c k = 0 then .int (f k) else if xFK c k = 1 then va_rf ((r k).map ρ) else .long (g k)
def xEc (G : xG) (ρ : Nat → Nat) (t : Nat × Nat) (r : Nat → Option Nat) (f : Nat → Int32) (g : Nat → Int64) : va_E :=
  if t.1 < 7 then .inr (t.1, (List.range t.2).map (xfv ρ t.1 r f g))
  else if t.1 = 10 ∨ t.1 = 13 then .inl (G.2.2 t.1, t.2, .inl f)
  else .inl (G.2.2 t.1, t.2, .inr (.inr (.inr (.inr (fun i => (r i).map ρ)))))
def xE (G : xG) (ρ : Nat → Nat) (z : xZ) (v : xS) (a : Nat) : va_E := xEc G ρ (SH a) (z.2 a) (v.1 a) (v.2 a)
def xws (G : xG) (ρ : Nat → Nat) (z : xZ) (v : xS) : va_W := z.1.map (fun a => (ρ a, xE G ρ z v a))
def xtys (G : xG) : List (ClassId × FieldType) := [(G.2.2 10, .int), (G.2.2 13, .boolean), (G.2.2 11, .object "MovingHills$Land"), (G.2.2 12, .array .int)]
def wV (v : xS) (a k : Nat) (x : Int32) : xS := (va_up v.1 a (upd (v.1 a) k x), v.2)
def wL (v : xS) (a k : Nat) (x : Int64) : xS := (v.1, va_up v.2 a (va_up (v.2 a) k x))
def wA (v : xS) (a : Nat) (f : Nat → Int32) : xS := (va_up v.1 a f, v.2)
def wR (z : xZ) (a k : Nat) (x : Option Nat) : xZ := (z.1, va_up z.2 a (va_up (z.2 a) k x))
theorem wV_eq (v : xS) (a k : Nat) (x : Int32) (b j : Nat) : (wV v a k x).1 b j = if b = a then (if j = k then x else v.1 b j) else v.1 b j := by
  unfold wV va_up upd
  dsimp only
  by_cases h : b = a
  · subst h; simp
  · simp [h]
theorem wV_row (v : xS) (a k : Nat) (x : Int32) (b : Nat) : (wV v a k x).1 b = if b = a then upd (v.1 a) k x else v.1 b := rfl
theorem wA_row (v : xS) (a : Nat) (f : Nat → Int32) (b : Nat) : (wA v a f).1 b = if b = a then f else v.1 b := rfl
theorem wL_row (v : xS) (a k : Nat) (x : Int64) (b : Nat) : (wL v a k x).2 b = if b = a then va_up (v.2 a) k x else v.2 b := rfl
def xrm (d mc ms : Nat) : Room := { frames := d, cells := mc, slots := ms, locals := 64 * d }
def xgt : List Cond := lw_tbl.filter goodWord
def xw (y : MethodName) (cc : ByteArray) (nL : Nat) (ret : Option FieldType) : List Cond := Cond.code y cc nL ret :: xgt
theorem xgt_at {w : Cond} (i : Nat) (h : lw_tbl[i]? = some w) (hg : goodWord w = true) : w ∈ xgt := List.mem_filter.mpr ⟨List.mem_of_getElem? h, hg⟩
def xNest : List Cond := [.fieldLinkNest "MovingHills$Reading" 61 "MovingHills" "LETTER" "[I" "MovingHills", .fieldLinkNest "MovingHills$Land" 71 "MovingHills" "IS" "[I" "MovingHills", .fieldLinkNest "MovingHills$Land" 94 "MovingHills" "LEAST_HIGH" "[I" "MovingHills", .fieldLinkNest "MovingHills$Land" 107 "MovingHills" "MOST_INCHES" "[I" "MovingHills", .methodLinkNest "MovingHills" 23 yX3_init "MovingHills", .methodLinkNest "MovingHills" 30 yX1_init "MovingHills", .arrayOver (.array .int), .arrayOver (.object "MovingHills$Land")]
def xSt (ρ : Nat → Nat) (A : Nat → Prop) (U : State) (H : Heap) : Prop := (∀ i, i < 4 → va_Z "MovingHills" (xSn i) "[I" (.ref (ρ (110 + i))) A U H ∧ va_T .int (ρ (110 + i)) 6 (fun j => .int ((xSv i).getD j 0)) A U H) ∧ ∀ w ∈ xNest, va_Nw w U
def xGr (z0 : xZ) (ρ0 : Nat → Nat) (z : xZ) (ρ : Nat → Nat) : Prop := (∀ a, a ∈ z0.1 → a ∈ z.1) ∧ (∀ a, (a ∈ z0.1 ∨ a ∉ z.1) → ρ a = ρ0 a) ∧ ∀ i, i < 4 → ρ (110 + i) = ρ0 (110 + i)
theorem xGr.rf (z : xZ) (ρ : Nat → Nat) : xGr z ρ z ρ := ⟨fun _ h => h, fun _ _ => rfl, fun _ _ => rfl⟩
theorem xGr.same {z0 z z' : xZ} {ρ0 ρ : Nat → Nat} (h : xGr z0 ρ0 z ρ) (e : z'.1 = z.1) : xGr z0 ρ0 z' ρ := ⟨fun a ha => by rw [e]; exact h.1 a ha, fun a ha => h.2.1 a (by rw [← e]; exact ha), h.2.2⟩
theorem xGr.trans {z0 z z' : xZ} {ρ0 ρ ρ' : Nat → Nat} (h : xGr z0 ρ0 z ρ) (h' : xGr z ρ z' ρ') : xGr z0 ρ0 z' ρ' := by
  refine ⟨fun a ha => h'.1 a (h.1 a ha), fun a ha => ?_, fun i hi => (h'.2.2 i hi).trans (h.2.2 i hi)⟩
  by_cases hz : a ∈ z.1
  · rw [h'.2.1 a (Or.inl hz)]
    rcases ha with ha | ha
    · exact h.2.1 a (Or.inl ha)
    · exact absurd (h'.1 a hz) ha
  · rcases ha with ha | ha
    · exact absurd (h.1 a ha) hz
    · rw [h'.2.1 a (Or.inr ha), h.2.1 a (Or.inr hz)]
theorem xGr.eq {z z' : xZ} {ρ ρ' : Nat → Nat} (h : xGr z ρ z' ρ') (e : z'.1 = z.1) : ρ' = ρ := funext fun a => h.2.1 a (by rw [e]; exact Classical.em _)
def xPost (G : xG) (z0 : xZ) (v0 : xS) (ρ0 : Nat → Nat) (sz : Nat) (Q : Option Value → xZ → xS → Prop) : Array Value → State → Outcome → State → Prop := fun _ st oc t =>
  (∃ (r : Option Value) (z : xZ) (v : xS) (ρ : Nat → Nat), oc = .returned (r.map (xtr ρ)) ∧ Q r z v ∧ xGr z0 ρ0 z ρ ∧ va_P G.2.1 vwCl (xws G ρ z v) t.heap ∧ va_D (va_A (xws G ρ0 z0 v0) sz) (xws G ρ z v)) ∧ va_F (va_A (xws G ρ0 z0 v0) sz) st t
def xPre (G : xG) (z : xZ) (v : xS) (ρ : Nat → Nat) (sz : Nat) (U : State) : Prop :=
  U.heap.size = sz ∧ va_P G.2.1 vwCl (xws G ρ z v) U.heap ∧ va_K G.2.1 vwCl (xtys G) U ∧ va_D (fun _ => True) (xws G ρ z v) ∧ xSt ρ (va_A (xws G ρ z v) sz) U U.heap
/-- a method's contract: from the cells z with contents v and these arguments it returns, and what it answers and leaves is of Q -/
def Ok (G : xG) (d mc ms : Nat) (y : MethodName) (cc : ByteArray) (nL : Nat) (ret : Option FieldType) (as : List Value) (z : xZ) (v : xS) (Q : Option Value → xZ → xS → Prop) : Prop :=
  ∀ (ρ : Nat → Nat) (sz : Nat), Met G.1 y (xw y cc nL ret) (xrm d mc ms) (va_Pc (as.map (xtr ρ)) (xPre G z v ρ sz)) (xPost G z v ρ sz Q) mc ms (va_A (xws G ρ z v) sz)
def xprs (ρ : Nat → Nat) : Nat → List (Option Value) → List (Nat × Value)
  | _, [] => []
  | k, none :: t => xprs ρ (k + 1) t
  | k, some v :: t => (k, xtr ρ v) :: xprs ρ (k + 1) t
theorem xprs_mem {ρ : Nat → Nat} : ∀ (L : List (Option Value)) (k : Nat) (q : Nat × Value), q ∈ xprs ρ k L ↔ ∃ (i : Nat) (v : Value), L[i]? = some (some v) ∧ q = (k + i, xtr ρ v)
  | [], k, q => by simp [xprs]
  | none :: t, k, q => by
    rw [xprs, xprs_mem t (k + 1) q]
    constructor
    · rintro ⟨i, v, h1, h2⟩
      exact ⟨i + 1, v, by simpa using h1, by rw [h2]; congr 1; omega⟩
    · rintro ⟨i, v, h1, h2⟩
      cases i with
      | zero => simp at h1
      | succ i => exact ⟨i, v, by simpa using h1, by rw [h2]; congr 1; omega⟩
  | some w :: t, k, q => by
    rw [xprs, List.mem_cons, xprs_mem t (k + 1) q]
    constructor
    · rintro (h | ⟨i, v, h1, h2⟩)
      · exact ⟨0, w, by simp, by simpa using h⟩
      · exact ⟨i + 1, v, by simpa using h1, by rw [h2]; congr 1; omega⟩
    · rintro ⟨i, v, h1, h2⟩
      cases i with
      | zero =>
        left
        simp at h1
        rw [h2, h1]; rfl
      | succ i => exact Or.inr ⟨i, v, by simpa using h1, by rw [h2]; congr 1; omega⟩
def xLH (ls : Array Slot) (nL : Nat) (ρ : Nat → Nat) (L : List (Option Value)) : Prop := lv_has ls nL (xprs ρ 0 L)
theorem xLH.at {ls : Array Slot} {nL : Nat} {ρ : Nat → Nat} {L : List (Option Value)} (h : xLH ls nL ρ L) {i : Nat} {v : Value} (hi : L[i]? = some (some v)) : ls[i]? = some (.val (xtr ρ v)) :=
  h.2.2 (i, xtr ρ v) ((xprs_mem L 0 _).mpr ⟨i, v, hi, by simp⟩)
def xlong (o : Option (Option Value)) : Bool := match o with
  | some (some (.long _)) => true
  | some (some (.double _)) => true
  | _ => false
/-- storing a value of one slot, of two slots -/
def xs1 (L : List (Option Value)) (i : Nat) (v : Value) : List (Option Value) := (if 0 < i ∧ xlong L[i - 1]? then L.set (i - 1) none else L).set i (some v)
def xs2 (L : List (Option Value)) (i : Nat) (v : Value) : List (Option Value) := ((if 0 < i ∧ xlong L[i - 1]? then L.set (i - 1) none else L).set i (some v)).set (i + 1) none
theorem xlong_cat {L : List (Option Value)} {i : Nat} {v : Value} (h : L[i]? = some (some v)) (hc : v.category = 2) : xlong L[i]? = true := by
  rw [h]; cases v <;> first | rfl | (simp [Value.category] at hc)
theorem xs1_old {L : List (Option Value)} {i j : Nat} {v w : Value} (h : (xs1 L i v)[j]? = some (some w)) : (j = i ∧ w = v) ∨ (j ≠ i ∧ L[j]? = some (some w) ∧ ¬ (j + 1 = i ∧ w.category = 2)) := by
  unfold xs1 at h
  by_cases hj : j = i
  · subst hj
    left
    rw [List.getElem?_set] at h
    simp at h
    exact ⟨rfl, h.2.symm⟩
  · right
    rw [List.getElem?_set_ne (Ne.symm hj)] at h
    split at h
    · rename_i hc
      by_cases hj1 : j = i - 1
      · rw [hj1, List.getElem?_set] at h
        simp at h
      · rw [List.getElem?_set_ne (Ne.symm hj1)] at h
        exact ⟨hj, h, fun q => hj1 (by omega)⟩
    · rename_i hc
      refine ⟨hj, h, fun q => hc ⟨by omega, ?_⟩⟩
      have : i - 1 = j := by omega
      rw [this]
      exact xlong_cat h q.2
theorem xLH.of1 {ls' : Array Slot} {nL : Nat} {ρ : Nat → Nat} {L : List (Option Value)} {i : Nat} {v : Value} (h : lv_has ls' nL ((i, xtr ρ v) :: (xprs ρ 0 L).filter (fun q => !(q.1 == i) && !(q.1 + 1 == i && q.2.category == 2)))) : xLH ls' nL ρ (xs1 L i v) := by
  refine ⟨h.1, h.2.1, fun q hq => h.2.2 q ?_⟩
  obtain ⟨j, w, h1, h2⟩ := (xprs_mem _ 0 q).mp hq
  subst h2
  rcases xs1_old h1 with ⟨e1, e2⟩ | ⟨e1, e2, e3⟩
  · subst e1; subst e2
    simp
  · refine List.mem_cons_of_mem _ (List.mem_filter.mpr ⟨(xprs_mem L 0 _).mpr ⟨j, w, e2, rfl⟩, ?_⟩)
    simp only [Nat.zero_add, xtr_cat]
    simp [e1]
    by_cases h3 : j + 1 = i
    · exact Or.inr (fun h4 => e3 ⟨h3, h4⟩)
    · exact Or.inl h3
theorem xs2_old {L : List (Option Value)} {i j : Nat} {v w : Value} (h : (xs2 L i v)[j]? = some (some w)) : (j = i ∧ w = v) ∨ (j ≠ i ∧ j ≠ i + 1 ∧ L[j]? = some (some w) ∧ ¬ (j + 1 = i ∧ w.category = 2)) := by
  unfold xs2 at h
  by_cases hj2 : j = i + 1
  · subst hj2
    rw [List.getElem?_set] at h
    simp at h
  · rw [List.getElem?_set_ne (Ne.symm hj2)] at h
    rcases xs1_old (L := L) (i := i) (v := v) h with h | ⟨h1, h2, h3⟩
    · exact Or.inl h
    · exact Or.inr ⟨h1, hj2, h2, h3⟩
theorem xLH.of2 {ls' : Array Slot} {nL : Nat} {ρ : Nat → Nat} {L : List (Option Value)} {i : Nat} {v : Value} (h : lv_has ls' nL ((i, xtr ρ v) :: (xprs ρ 0 L).filter (fun q => !(q.1 == i) && (!(q.1 == i + 1) && !(q.1 + 1 == i && q.2.category == 2))))) : xLH ls' nL ρ (xs2 L i v) := by
  refine ⟨h.1, h.2.1, fun q hq => h.2.2 q ?_⟩
  obtain ⟨j, w, h1, h2⟩ := (xprs_mem _ 0 q).mp hq
  subst h2
  rcases xs2_old h1 with ⟨e1, e2⟩ | ⟨e1, e2, e3, e4⟩
  · subst e1; subst e2
    simp
  · refine List.mem_cons_of_mem _ (List.mem_filter.mpr ⟨(xprs_mem L 0 _).mpr ⟨j, w, e3, rfl⟩, ?_⟩)
    simp only [Nat.zero_add, xtr_cat]
    simp [e1, e2]
    by_cases h3 : j + 1 = i
    · exact Or.inr (fun h4 => e4 ⟨h3, h4⟩)
    · exact Or.inl h3
/-- what a method's walk stands on -/
def xC (G : xG) (y : MethodName) (cc : ByteArray) (nL : Nat) (ret : Option FieldType) (own : String) (z0 : xZ) (v0 : xS) (ρ0 : Nat → Nat) (sz : Nat) (p : Program) (s : State) (m : MethodId) (args : Array Value) (meth : Method) (c : Code) : Prop :=
  p.tables.exec = Jvm.exec ∧ c.code = cc ∧ meth.sig.returnType = ret ∧ c.maxLocals = nL ∧ s.vm.findClass own = some m.cls ∧ (∀ w ∈ xw y cc nL ret, w.before args s = true) ∧ meth.locks = false ∧ meth.name = y.name ∧ s.heap.size = sz ∧ va_K G.2.1 vwCl (xtys G) s ∧ xSt ρ0 (va_A (xws G ρ0 z0 v0) sz) s s.heap
/-- the machine at pc of a method, with locals L, stack st, cells z with contents v: it comes to the method's end with Q -/
def AW (G : xG) (d mc ms : Nat) (y : MethodName) (cc : ByteArray) (nL : Nat) (ret : Option FieldType) (own : String) (kc kn : Nat) (pc : Nat) (L : List (Option Value)) (st : List Value) (z : xZ) (v : xS) (Q : Option Value → xZ → xS → Prop) : Prop :=
  ∀ (z0 : xZ) (v0 : xS) (ρ0 : Nat → Nat) (sz : Nat) (p : Program) (e : Env) (s : State) (m : MethodId) (args : Array Value) (below : List Frame) (meth : Method) (c : Code), xC G y cc nL ret own z0 v0 ρ0 sz p s m args meth c →
  ∀ (ρ : Nat → Nat) (H : Heap) (locs : List Loc) (ls : Array Slot), xGr z0 ρ0 z ρ → va_P G.2.1 vwCl (xws G ρ z v) H → va_D (va_A (xws G ρ0 z0 v0) sz) (xws G ρ z v) → va_S (va_A (xws G ρ0 z0 v0) sz) s.heap H locs → xLH ls nL ρ L →
  W p G.1 e (xrm d mc ms) s m args below meth c H locs kc kn (MQ below (xPost G z0 v0 ρ0 sz Q) args s mc ms (va_A (xws G ρ0 z0 v0) sz)) (F0 m pc ls (st.map (xtr ρ)))
