section
/-! new int[n][k], from the machine's own text: the heap behind it in closed form (one outer array, n inner ones behind it) -/
/-- the outer array once its first i places hold the cells behind it -/
def gm_o (c : ClassId) (N h i : Nat) : Cell := arrV c N (fun j => va_rf (if j < i then some (h + 1 + j) else none))
theorem gm_o_size (c : ClassId) (N h i : Nat) : (gm_o c N h i).slots.size = N := arrV_size c N _
theorem gm_o_new (c : ClassId) (N h : Nat) : ({ cls := c, slots := Array.replicate N .null, vm := .none } : Cell) = gm_o c N h 0 := by
  rw [arrV_new]
  exact congrArg (arrV c N) (funext fun j => by simp [va_rf])
theorem gm_o_next (c : ClassId) (N h i : Nat) : (gm_o c N h i).setSlot i (.ref (h + 1 + i)) = gm_o c N h (i + 1) := by
  unfold gm_o
  rw [arrV_store]
  refine congrArg (arrV c N) (funext fun j => ?_)
  show (if j = i then Value.ref (h + 1 + i) else va_rf (if j < i then some (h + 1 + j) else none)) = va_rf (if j < i + 1 then some (h + 1 + j) else none)
  rcases Nat.lt_trichotomy j i with q | q | q
  · rw [if_neg (show ¬ j = i by omega), if_pos q, if_pos (show j < i + 1 by omega)]
  · rw [if_pos q, if_pos (show j < i + 1 by omega), q]
    rfl
  · rw [if_neg (show ¬ j = i by omega), if_neg (show ¬ j < i by omega), if_neg (show ¬ j < i + 1 by omega)]
/-- a heap, one cell, and i equal ones behind it -/
theorem gm_get (H : Heap) (y x : Cell) (i a : Nat) : (H.push y ++ Array.replicate i x)[a]? = if a < H.size then H[a]? else if a = H.size then some y else if a < H.size + 1 + i then some x else none := by
  rw [Array.getElem?_append, Array.size_push, Array.getElem?_push, Array.getElem?_replicate]
  rcases Nat.lt_trichotomy a H.size with q | q | q
  · rw [if_pos (show a < H.size + 1 by omega), if_neg (show ¬ a = H.size by omega), if_pos q]
  · rw [if_pos (show a < H.size + 1 by omega), if_pos q, if_neg (show ¬ a < H.size by omega), if_pos q]
  · rw [if_neg (show ¬ a < H.size + 1 by omega), if_neg (show ¬ a < H.size by omega), if_neg (show ¬ a = H.size by omega)]
    by_cases w : a < H.size + 1 + i
    · rw [if_pos (show a - (H.size + 1) < i by omega), if_pos w]
    · rw [if_neg (show ¬ a - (H.size + 1) < i by omega), if_neg w]
theorem gm_len (H : Heap) (y x : Cell) (i : Nat) : (H.push y ++ Array.replicate i x).size = H.size + 1 + i := by simp
theorem gm_heap (H : Heap) (y y' x : Cell) (i : Nat) : ((H.push y ++ Array.replicate i x).push x).setIfInBounds H.size y' = H.push y' ++ Array.replicate (i + 1) x := by
  refine Array.ext_getElem? (fun a => ?_)
  rw [gm_get, Array.getElem?_setIfInBounds, Array.getElem?_push, gm_get, Array.size_push, gm_len]
  rcases Nat.lt_trichotomy a H.size with q | q | q
  · rw [if_neg (show ¬ H.size = a by omega), if_neg (show ¬ a = H.size + 1 + i by omega), if_pos q, if_pos q]
  · rw [if_pos (show H.size = a by omega), if_pos (show H.size < H.size + 1 + i + 1 by omega), if_neg (show ¬ a < H.size by omega), if_pos q]
  · rw [if_neg (show ¬ H.size = a by omega), if_neg (show ¬ a < H.size by omega), if_neg (show ¬ a < H.size by omega), if_neg (show ¬ a = H.size by omega), if_neg (show ¬ a = H.size by omega)]
    by_cases w : a = H.size + 1 + i
    · rw [if_pos w, if_pos (show a < H.size + 1 + (i + 1) by omega)]
    · rw [if_neg w]
      by_cases w2 : a < H.size + 1 + i
      · rw [if_pos w2, if_pos (show a < H.size + 1 + (i + 1) by omega)]
      · rw [if_neg w2, if_neg (show ¬ a < H.size + 1 + (i + 1) by omega)]
/-- the state with these cells behind its heap -/
def gm_S (S : State) (y x : Cell) (i : Nat) : State := { S with heap := S.heap.push y ++ Array.replicate i x, slotsUsed := S.slotsUsed + y.slots.size + i * x.slots.size }
theorem gm_S_new (S : State) (y x : Cell) : S.pushCell y = gm_S S y x 0 := by
  unfold gm_S State.pushCell
  rw [Array.replicate_zero, Array.append_empty, Nat.zero_mul, Nat.add_zero]
theorem gm_S_next (S : State) (y y' x : Cell) (i : Nat) (hy : y'.slots.size = y.slots.size) : ((gm_S S y x i).pushCell x).setCell S.heap.size y' = gm_S S y' x (i + 1) := by
  have e2 : S.slotsUsed + y.slots.size + i * x.slots.size + x.slots.size = S.slotsUsed + y'.slots.size + (i + 1) * x.slots.size := by
    rw [hy, Nat.add_mul]
    omega
  show ({ S with heap := ((S.heap.push y ++ Array.replicate i x).push x).setIfInBounds S.heap.size y', slotsUsed := S.slotsUsed + y.slots.size + i * x.slots.size + x.slots.size } : State) = _
  rw [gm_heap, e2]
  rfl
theorem gm_S_top (S : State) (g : JFrame) (y x : Cell) (i : Nat) : gm_S (S.setTop g) y x i = (gm_S S y x i).setTop g := rfl
theorem gm_S_out (S : State) (y x : Cell) (i : Nat) : (gm_S S y x i).heap[S.heap.size]? = some y := by
  show (S.heap.push y ++ Array.replicate i x)[S.heap.size]? = _
  rw [gm_get, if_neg (by omega), if_pos rfl]
theorem gm_S_out1 (S : State) (y x : Cell) (i : Nat) : ((gm_S S y x i).pushCell x).heap[S.heap.size]? = some y := by
  show ((S.heap.push y ++ Array.replicate i x).push x)[S.heap.size]? = _
  rw [Array.getElem?_push, gm_len, if_neg (by omega)]
  exact gm_S_out S y x i
section GMS
variable {p : Program} {l : Launch} {e : Env} {R : Room} {s : State} {m : MethodId} {args : Array Value} {below : List Frame} {meth : Method} {c : Code} {S : State} {locs : List Loc} {cells slots : Nat}
theorem gm_stand (X : Stand p l e R s m args below meth c S locs cells slots) (cA : ClassId) (N : Nat) (x : Cell) : ∀ i : Nat, Stand p l e R s m args below meth c (gm_S S (gm_o cA N S.heap.size i) x i) locs (cells + 1 + i) (slots + N + i * x.slots.size)
  | 0 => by
    have h := X.pushed (gm_o cA N S.heap.size 0)
    rw [gm_S_new _ _ x, gm_o_size] at h
    rw [Nat.zero_mul]
    exact h
  | i + 1 => by
    have h := ((gm_stand X cA N x i).pushed x).stored (gm_S_out1 S (gm_o cA N S.heap.size i) x i) i (.ref (S.heap.size + 1 + i))
    rw [gm_o_next, gm_S_next S (gm_o cA N S.heap.size i) _ x i (by rw [gm_o_size, gm_o_size])] at h
    have h2 := h.dropFresh (fun w hw => by cases List.mem_singleton.mp hw; exact X.heapGrown)
    rw [show slots + N + (i + 1) * x.slots.size = slots + N + i * x.slots.size + x.slots.size by rw [Nat.add_mul]; omega]
    exact h2
end GMS
section GMW
variable {E : CtlPost} {e : Env} {d : Bool} {acts : List Action}
theorem gm_make1 {S : State} {cy cc : ClassId} {kc : Class} {ty : FieldType} {k : Int32} (hc : S.vm.classes[cy]? = some kc) (hkc : kc.kind = .array cc ty) (hk : ¬ k < 0) (hl : ¬ k.toNatClampNeg > e.platform.arrayLengthLimit) (hh : ¬ k.toNatClampNeg * componentBytes ty > e.platform.maxHeapBytes) (hf : fits ty (defaultValue ty) = true) (h1 : S.heap.size < e.platform.maxCells) (h2 : S.slotsUsed + k.toNatClampNeg ≤ e.platform.maxSlots) {Q : Addr → Pre}
    (hq : ∀ acts', Q S.heap.size d acts' (S.pushCell { cls := cy, slots := Array.replicate k.toNatClampNeg (defaultValue ty), vm := .none })) : wp (multianewarray.make cy [k]) Q E e d acts S := by
  unfold multianewarray.make
  simp only [wp_bind', W.ite, if_neg hk, wp_pure', W.theClass]
  refine ⟨kc, hc, ?_⟩
  rw [hkc]
  exact W.newArray_of hc hkc hl hh h1 h2 hf hq
theorem gm_loop {S : State} {cA cy cc : ClassId} {kA kc : Class} {ty : FieldType} {N : Nat} {k : Int32} (hA : S.vm.classes[cA]? = some kA) (hkA : kA.kind = .array cy (.array ty)) (hc : S.vm.classes[cy]? = some kc) (hkc : kc.kind = .array cc ty) (hk : ¬ k < 0) (hl : ¬ k.toNatClampNeg > e.platform.arrayLengthLimit) (hh : ¬ k.toNatClampNeg * componentBytes ty > e.platform.maxHeapBytes) (hf : fits ty (defaultValue ty) = true)
    (h1 : S.heap.size + 1 + N ≤ e.platform.maxCells) (h2 : S.slotsUsed + N + N * k.toNatClampNeg ≤ e.platform.maxSlots) {x : Cell} (hx : { cls := cy, slots := Array.replicate k.toNatClampNeg (defaultValue ty), vm := .none } = x) (hxs : x.slots.size = k.toNatClampNeg) {Q : PUnit → Pre}
    (hq : ∀ d' acts', Q PUnit.unit d' acts' (gm_S S (gm_o cA N S.heap.size N) x N)) : ∀ (r i : Nat) (d : Bool) (acts : List Action), i + r = N →
      wp (forIn (List.range' i r) PUnit.unit (fun (j : Nat) (_ : PUnit) => (do
        let a ← multianewarray.make cy [k]
        writeLoc S.heap.size j (.ref a)
        Pure.pure (ForInStep.yield PUnit.unit) : Sem (ForInStep PUnit)))) Q E e d acts (gm_S S (gm_o cA N S.heap.size i) x i)
  | 0, i, d, acts, w => by
    have w2 : i = N := by omega
    rw [w2, List.range'_zero]
    simp only [List.forIn_nil, wp_pure']
    exact hq _ _
  | r + 1, i, d, acts, w => by
    have hm : i * k.toNatClampNeg + k.toNatClampNeg ≤ N * k.toNatClampNeg := by
      rw [← Nat.succ_mul]
      exact Nat.mul_le_mul_right _ (by omega)
    have hsz : (gm_S S (gm_o cA N S.heap.size i) x i).heap.size = S.heap.size + 1 + i := gm_len _ _ _ _
    have hus : (gm_S S (gm_o cA N S.heap.size i) x i).slotsUsed = S.slotsUsed + N + i * k.toNatClampNeg := by
      show S.slotsUsed + (gm_o cA N S.heap.size i).slots.size + i * x.slots.size = _
      rw [gm_o_size, hxs]
    rw [List.range'_succ, List.forIn_cons]
    simp only [wp_bind']
    refine gm_make1 (S := gm_S S (gm_o cA N S.heap.size i) x i) hc hkc hk hl hh hf (by rw [hsz]; omega) (by rw [hus]; omega) (fun a1 => ?_)
    rw [hx, hsz]
    rw [wp_bind', W.writeLoc]
    refine ⟨gm_o cA N S.heap.size i, gm_S_out1 S _ x i, (fun q => by cases q), by rw [gm_o_size]; omega, ?_, ?_⟩
    · show State.fitsSlot _ cA .none i _ = true
      have hA2 : (gm_S S (gm_o cA N S.heap.size i) x i).vm.classes[cA]? = some kA := hA
      simp [State.fitsSlot, State.slotType?, hA2, hkA, fits]
    · simp only [wp_pure']
      rw [gm_o_next, gm_S_next S (gm_o cA N S.heap.size i) _ x i (by rw [gm_o_size, gm_o_size])]
      exact gm_loop hA hkA hc hkc hk hl hh hf h1 h2 hx hxs hq r (i + 1) _ _ (by omega)
theorem gm_make2 {S : State} {cA cy cc : ClassId} {kA kc : Class} {ty : FieldType} {n k : Int32} (hA : S.vm.classes[cA]? = some kA) (hkA : kA.kind = .array cy (.array ty)) (hc : S.vm.classes[cy]? = some kc) (hkc : kc.kind = .array cc ty) (hn : ¬ n < 0) (hk : ¬ k < 0) (hl1 : ¬ n.toNatClampNeg > e.platform.arrayLengthLimit) (hh1 : ¬ n.toNatClampNeg * componentBytes (.array ty) > e.platform.maxHeapBytes) (hl : ¬ k.toNatClampNeg > e.platform.arrayLengthLimit) (hh : ¬ k.toNatClampNeg * componentBytes ty > e.platform.maxHeapBytes) (hf : fits ty (defaultValue ty) = true)
    (h1 : S.heap.size + 1 + n.toNatClampNeg ≤ e.platform.maxCells) (h2 : S.slotsUsed + n.toNatClampNeg + n.toNatClampNeg * k.toNatClampNeg ≤ e.platform.maxSlots) {x : Cell} (hx : x = { cls := cy, slots := Array.replicate k.toNatClampNeg (defaultValue ty), vm := .none }) {Q : Addr → Pre}
    (hq : ∀ d' acts', Q S.heap.size d' acts' (gm_S S (gm_o cA n.toNatClampNeg S.heap.size n.toNatClampNeg) x n.toNatClampNeg)) : wp (multianewarray.make cA [n, k]) Q E e d acts S := by
  have hxs : x.slots.size = k.toNatClampNeg := by rw [hx]; simp
  unfold multianewarray.make
  simp only [wp_bind', W.ite, if_neg hn, wp_pure', W.theClass]
  refine ⟨kA, hA, ?_⟩
  rw [hkA]
  simp only [wp_bind']
  refine W.newArray_of hA hkA hl1 hh1 (by omega) (by omega) rfl (fun acts1 => ?_)
  rw [gm_o_new cA n.toNatClampNeg S.heap.size, gm_S_new _ _ x]
  have hfd : List.find? (fun w : Int32 => decide (w < 0)) [k] = none := by simp [hk]
  simp only [hfd, ite_self, wp_bind', Std.Legacy.Range.forIn_eq_forIn_range']
  have e0 : ([:n.toNatClampNeg] : Std.Legacy.Range).size = n.toNatClampNeg := by simp [Std.Legacy.Range.size]
  rw [e0]
  refine gm_loop hA hkA hc hkc hk hl hh hf h1 h2 hx.symm hxs (fun d1 acts2 => ?_) n.toNatClampNeg 0 _ _ (by omega)
  simp only [wp_pure']
  exact hq _ _
end GMW
section GMT
variable {p : Program} {l : Launch} {e : Env} {R : Room} {s : State} {m : MethodId} {args : Array Value} {below : List Frame} {meth : Method} {c : Code} {T : State} {locs : List Loc} {cells slots : Nat}
/-- the word that new T[n][k] wants of the tables: the array class over T[] -/
def va_AOA (ty : FieldType) (U : State) : Prop := va_Nw (.arrayOver (.array ty)) U
theorem gm_over {ty : FieldType} {U : State} (h : va_AOA ty U) : ∃ (cy cA : ClassId) (kA : Class), U.vm.findClass (FieldType.array ty).toString = some cy ∧ U.vm.findClass ("[" ++ (FieldType.array ty).toString) = some cA ∧ U.vm.classes[cA]? = some kA ∧ kA.kind = .array cy (.array ty) := by
  have h0 : (Cond.arrayOver (.array ty)).before #[] U = true := h
  simp only [Cond.before, Cond.holds, Cond.value, beq_iff_eq, Option.bind_eq_some_iff, Option.map_eq_some_iff] at h0
  obtain ⟨cy, e1, cA, e2, kA, e3, e4⟩ := h0
  obtain ⟨w1, w2, -⟩ := Array.findIdx?_eq_some_iff_getElem.mp e2
  have w3 : U.vm.classes[cA] = kA := Option.some.inj ((Array.getElem?_eq_getElem w1).symm.trans e3)
  rw [w3] at w2
  cases hq : kA.kind with
  | array a b =>
    rw [hq] at w2 e4
    simp only [Bool.and_eq_true, decide_eq_true_eq, beq_iff_eq] at w2 e4
    exact ⟨cy, cA, kA, e1, e4.2, e3, by rw [hq, w2, e4.1]⟩
  | _ =>
    rw [hq] at e4
    cases e4
theorem gm_two (X : Stand p l e R s m args below meth c T locs cells slots) (hexec : p.tables.exec = Jvm.exec) {own : String} {index pc : Nat} {ls : Array Slot} {rest : List Value} {ty : FieldType} {cy : ClassId} {n k : Int32} {x : Cell} (hown : s.vm.findClass own = some m.cls) (hclink : (Cond.classLink own index ("[" ++ (FieldType.array ty).toString)).before args s = true) (hover : va_AOA ty s) (harr : (Cond.arrayClass ty).before args s = true) (hcy : s.vm.findClass (FieldType.array ty).toString = some cy)
    (hdg : decode c.code pc = .ok (.multianewarray index 2, 4)) (hn : ¬ n < 0) (hk : ¬ k < 0) (hb1 : n.toNatClampNeg * 4 ≤ 536870912) (hb2 : k.toNatClampNeg * componentBytes ty ≤ 536870912) (hb3 : k.toNatClampNeg ≤ 536870912) (hdf : fits ty (defaultValue ty) = true) (hcells : cells + (1 + n.toNatClampNeg) ≤ R.cells) (hslots : slots + (n.toNatClampNeg + n.toNatClampNeg * k.toNatClampNeg) ≤ R.slots) (hx : x = { cls := cy, slots := Array.replicate k.toNatClampNeg (defaultValue ty), vm := .none }) :
    ∃ (vm1 : Vm) (cA : ClassId) (kA : Class), s.vm.findClass ("[" ++ (FieldType.array ty).toString) = some cA ∧ s.vm.classes[cA]? = some kA ∧ kA.kind = .array cy (.array ty) ∧ Stand p l e R s m args below meth c (gm_S (T.setVm vm1) (gm_o cA n.toNatClampNeg T.heap.size n.toNatClampNeg) x n.toNatClampNeg) locs (cells + 1 + n.toNatClampNeg) (slots + n.toNatClampNeg + n.toNatClampNeg * k.toNatClampNeg) ∧
      ∀ t : State, Steps p.tables e below ((gm_S (T.setVm vm1) (gm_o cA n.toNatClampNeg T.heap.size n.toNatClampNeg) x n.toNatClampNeg).setTop (F0 m (pc + 4) ls (.ref T.heap.size :: rest))) t → Steps p.tables e below (T.setTop (F0 m pc ls (.int k :: .int n :: rest))) t := by
  obtain ⟨cy', cA, kA, o1, o2, o3, o4⟩ := gm_over hover
  have ey : cy' = cy := Option.some.inj (o1.symm.trans hcy)
  subst ey
  obtain ⟨cy2, kc, cc, i1, i2, i3⟩ := Cond.arrayClass_spec harr
  have ey2 : cy2 = cy' := Option.some.inj (i1.symm.trans hcy)
  subst ey2
  obtain ⟨cA2, f1, f2⟩ := Cond.classLink_spec hown hclink e.platform (by rw [X.admits.platform])
  have eA : cA2 = cA := Option.some.inj (f1.symm.trans o2)
  subst eA
  obtain ⟨g1, g2, -⟩ := State.classEntry (e := e) X.warmed f2
  generalize T.vm.noted m.cls index (.cls cA2) = vm1 at g1 g2
  obtain ⟨kA1, a1, a2⟩ := g2.alike.2.2 _ _ o3
  obtain ⟨kc1, b1, b2⟩ := g2.alike.2.2 _ _ i2
  have a3 : kA1.kind = .array cy2 (.array ty) := by rw [a2]; exact o4
  have b3 : kc1.kind = .array cc ty := by rw [b2]; exact i3
  have hxs : x.slots.size = k.toNatClampNeg := by rw [hx]; simp
  have X1 := gm_stand (X.noted g2) cA2 n.toNatClampNeg x n.toNatClampNeg
  rw [hxs] at X1
  obtain ⟨r1, r2⟩ := X.roomAbove hcells hslots
  have q1 := Launch.admits_arrayLengthLimit X.admits
  have q2 := Launch.admits_maxHeapBytes X.admits
  refine ⟨vm1, cA2, kA, o2, o3, o4, X1, fun t ht => ?_⟩
  jvm_step X.here [hexec, hdg]
  unfold multianewarray.sem
  simp only [wp_bind']
  rw [W.resolveClassAt_links (State.method?_setTop _ X.here.top) g1]
  rw [wp_bind']
  refine (popN_top (s := T.setVm vm1) (f := F0 m pc ls (.int k :: .int n :: rest)) (args := [.int n, .int k]) (rest := rest) X.here.top rfl).mpr ?_
  simp only [List.mapM_cons, List.mapM_nil, wp_bind', wp_pure']
  refine gm_make2 (S := (T.setVm vm1).setTop (F0 m pc ls rest)) a1 a3 b1 b3 hn hk (by rw [q1]; omega) (by rw [q2]; show ¬ n.toNatClampNeg * 4 > _; omega) (by rw [q1]; omega) (by rw [q2]; omega) hdf (by show T.heap.size + 1 + _ ≤ _; omega) (by show T.slotsUsed + _ + _ ≤ _; omega) hx (fun d2 acts2 => ?_)
  rw [gm_S_top]
  simp only [wp_bind', W.mark, W.pushRef, State.setTop_setTop, State.heap_setTop]
  refine ⟨F0 m pc ls rest, State.topJava?_setTop' _ X1.here.top, fun acts3 => ?_⟩
  simp [jvm, X1.here.top]
  exact ht
end GMT
/-! ===== BEGIN new T[n][m]: the outer array a place, the inner ones among the pooled ===== -/
/-- f, but v at every address of l -/
def vr_up {α : Type} (f : Nat → α) (l : List Nat) (v : α) : Nat → α := fun a => if a ∈ l then v else f a
theorem vr_up_in {α : Type} {f : Nat → α} {l : List Nat} {v : α} {a : Nat} (h : a ∈ l) : vr_up f l v a = v := if_pos h
theorem vr_up_ne {α : Type} {f : Nat → α} {l : List Nat} {v : α} {a : Nat} (h : a ∉ l) : vr_up f l v a = f a := if_neg h
theorem vr_rows {L l : List Nat} {f : Nat → va_E} {e : va_E} (h : ∀ a, a ∈ l → a ∉ L) : va_pl L f ++ l.map (fun a => (a, e)) = va_pl (L ++ l) (vr_up f l e) := by
  unfold va_pl
  rw [List.map_append]
  congr 1
  · apply List.map_congr_left
    intro a ha
    rw [vr_up_ne (fun q => h a q ha)]
  · apply List.map_congr_left
    intro a ha
    rw [vr_up_in ha]
theorem vr_lay {X rows : va_W} {x : Nat × va_E} {pl : va_W} {D : va_G} {cl : List vw_C} {H : Heap} (hP : va_P D cl (((X ++ pl) ++ [x]) ++ rows) H) : va_P D cl ((X ++ [x]) ++ (pl ++ rows)) H := by
  rw [List.append_assoc (X ++ pl)] at hP
  have h := va_P.swap hP
  rw [← List.append_assoc X] at h
  have h2 := va_P.swap h
  rw [List.append_assoc (X ++ [x])] at h2
  exact h2
theorem vr_layD {X rows : va_W} {x : Nat × va_E} {pl : va_W} {A : Nat → Prop} (hD : va_D A (((X ++ pl) ++ [x]) ++ rows)) : va_D A ((X ++ [x]) ++ (pl ++ rows)) := by
  rw [List.append_assoc (X ++ pl)] at hD
  have h := va_D.swap hD
  rw [← List.append_assoc X] at h
  have h2 := va_D.swap h
  rw [List.append_assoc (X ++ [x])] at h2
  exact h2
section VGM
variable {p : Program} {l : Launch} {e : Env} {R : Room} {s : State} {m : MethodId} {args : Array Value} {below : List Frame} {meth : Method} {c : Code} {H : Heap} {locs : List Loc} {cells slots : Nat} {Q : State → Prop}
variable {cc : ByteArray} {pc : Nat} {ls : Array Slot} {rest : List Value} {D : va_G} {cl : List vw_C} {A : Nat → Prop} {a : Nat} {tys : List (ClassId × FieldType)} {ws : va_W} {H0 : Heap}
theorem va_mna {X : va_W} {L : List Nat} {f : Nat → va_E} {cc : ByteArray} (hexec : p.tables.exec = Jvm.exec) (hb : c.code = cc) {own : String} {index : Nat} {ty : FieldType} {cy : ClassId} (hown : s.vm.findClass own = some m.cls) (hclink : (Cond.classLink own index ("[" ++ (FieldType.array ty).toString)).before args s = true) (hover : va_AOA ty s) (harr : (Cond.arrayClass ty).before args s = true) (hcy : s.vm.findClass (FieldType.array ty).toString = some cy)
    (hK : va_K D cl tys s) (hP : va_P D cl (X ++ va_pl L f) H) (hD : va_D A (X ++ va_pl L f)) (hS : va_S A H0 H locs) (hA : ∀ q, H0.size ≤ q → A q) {n k : Int32} {N' K' : Nat} {z : vp_A} (hn : ¬ n < 0) (hk : ¬ k < 0) (hN : n.toNatClampNeg = N') (hM : k.toNatClampNeg = K')
    (hb1 : N' * 4 ≤ 536870912) (hb2 : K' * componentBytes ty ≤ 536870912) (hb3 : K' ≤ 536870912) (hdf : fits ty (defaultValue ty) = true) (hdd : (defaultValue ty).isDefault = true) (hcells : cells + (1 + N') ≤ R.cells) (hslots : slots + (N' + N' * K') ≤ R.slots) (hz : ∀ c : ClassId, ({ cls := c, slots := Array.replicate K' (defaultValue ty), vm := .none } : Cell) = vp_cell c z) (hdg : decode cc pc = .ok (.multianewarray index 2, 4))
    (kk : ∀ (q : Nat) (r : Nat → Nat) (cA : ClassId) (H1 : Heap), (∀ i j : Nat, i < N' → j < N' → r i = r j → i = j) → (∀ i : Nat, i < N' → r i ∉ L) → va_K D cl (tys ++ [(cA, .array ty)]) s →
      va_P D cl ((X ++ [(q, .inl (cA, N', .inr (.inr (.inr (.inr (fun i => if i < N' then some (r i) else none))))))]) ++ va_pl (L ++ (List.range N').map r) (vr_up f ((List.range N').map r) (.inl (cy, z)))) H1 → va_D A ((X ++ [(q, .inl (cA, N', .inr (.inr (.inr (.inr (fun i => if i < N' then some (r i) else none))))))]) ++ va_pl (L ++ (List.range N').map r) (vr_up f ((List.range N').map r) (.inl (cy, z)))) → va_S A H0 H1 locs →
      W p l e R s m args below meth c H1 locs (cells + 1 + N') (slots + N' + N' * K') Q (F0 m (pc + 4) ls (.ref q :: rest))) : W p l e R s m args below meth c H locs cells slots Q (F0 m pc ls (.int k :: .int n :: rest)) := by
  subst hN
  subst hM
  intro T hT Xs
  obtain ⟨vm1, cA, kA, fA, fK, fKk, X', step⟩ := gm_two Xs hexec (pc := pc) (ls := ls) (rest := rest) hown hclink hover harr hcy (by rw [hb]; exact hdg) hn hk hb1 hb2 hb3 hdf hcells hslots (hz cy).symm
  subst hT
  generalize hF : gm_S (T.setVm vm1) (gm_o cA n.toNatClampNeg T.heap.size n.toNatClampNeg) (vp_cell cy z) n.toNatClampNeg = F at X' step
  have hFh : F.heap = T.heap.push (gm_o cA n.toNatClampNeg T.heap.size n.toNatClampNeg) ++ Array.replicate n.toNatClampNeg (vp_cell cy z) := by rw [← hF]; rfl
  have f1 : F.heap.size = T.heap.size + 1 + n.toNatClampNeg := by rw [hFh, gm_len]
  have f2 : F.heap[T.heap.size]? = some (vp_cell cA (n.toNatClampNeg, .inr (.inr (.inr (.inr (fun i => if i < n.toNatClampNeg then some (T.heap.size + 1 + i) else none)))))) := by
    rw [hFh, gm_get, if_neg (by omega), if_pos rfl]
    rfl
  have hold : ∀ x : Nat, x < T.heap.size → F.heap[x]? = T.heap[x]? := fun x hx => by rw [hFh, gm_get, if_pos hx]
  have hrow : ∀ j : Nat, j < n.toNatClampNeg → F.heap[T.heap.size + 1 + j]? = some (vp_cell cy z) := fun j hj => by
    rw [hFh, gm_get, if_neg (show ¬ T.heap.size + 1 + j < T.heap.size by omega), if_neg (show ¬ T.heap.size + 1 + j = T.heap.size by omega), if_pos (show T.heap.size + 1 + j < T.heap.size + 1 + n.toNatClampNeg by omega)]
  have hlt : ∀ a, a ∈ L → a < T.heap.size := fun a ha => by
    obtain ⟨k9, hk9⟩ := va_pl_get (X := X) (f := f) ha
    exact (hP k9 _ hk9).lt
  have hnl : ∀ i : Nat, i < n.toNatClampNeg → T.heap.size + 1 + i ∉ L := fun i _ h => by
    have := hlt _ h
    omega
  have hnm : ∀ a, a ∈ (List.range n.toNatClampNeg).map (fun i => T.heap.size + 1 + i) → a ∉ L := fun a ha h => by
    obtain ⟨i, -, rfl⟩ := List.mem_map.mp ha
    have := hlt _ h
    omega
  have hP0 : va_P D cl (X ++ va_pl L f) F.heap := hP.kept (fun k9 x hx => hold x.1 ((hP k9 x hx).lt))
  have hP1 : va_P D cl ((X ++ va_pl L f) ++ [(T.heap.size, .inl (cA, n.toNatClampNeg, .inr (.inr (.inr (.inr (fun i => if i < n.toNatClampNeg then some (T.heap.size + 1 + i) else none))))))]) F.heap := hP0.app (fun k9 x hx => by
    have h0 : k9 < 1 := (List.getElem?_eq_some_iff.mp hx).1
    rw [show k9 = 0 by omega] at hx
    cases hx
    exact f2)
  have hP2 : va_P D cl (((X ++ va_pl L f) ++ [(T.heap.size, .inl (cA, n.toNatClampNeg, .inr (.inr (.inr (.inr (fun i => if i < n.toNatClampNeg then some (T.heap.size + 1 + i) else none))))))]) ++ ((List.range n.toNatClampNeg).map (fun i => T.heap.size + 1 + i)).map (fun a => (a, .inl (cy, z)))) F.heap := hP1.app (fun k9 x hx => by
    obtain ⟨a, ha, rfl⟩ := List.mem_map.mp (List.mem_of_getElem? hx)
    obtain ⟨i, hi, rfl⟩ := List.mem_map.mp ha
    exact hrow i (List.mem_range.mp hi))
  have hD2 : va_D A (((X ++ va_pl L f) ++ [(T.heap.size, .inl (cA, n.toNatClampNeg, .inr (.inr (.inr (.inr (fun i => if i < n.toNatClampNeg then some (T.heap.size + 1 + i) else none))))))]) ++ ((List.range n.toNatClampNeg).map (fun i => T.heap.size + 1 + i)).map (fun a => (a, .inl (cy, z)))) := by
    have hD1 := hD.push (e := .inl (cA, n.toNatClampNeg, .inr (.inr (.inr (.inr (fun i => if i < n.toNatClampNeg then some (T.heap.size + 1 + i) else none)))))) hP rfl (hA _ hS.1)
    generalize hW1 : (X ++ va_pl L f) ++ [(T.heap.size, .inl (cA, n.toNatClampNeg, .inr (.inr (.inr (.inr (fun i => if i < n.toNatClampNeg then some (T.heap.size + 1 + i) else none))))))] = W1 at hD1 hP1 ⊢
    have hle : ∀ (k9 : Nat) (x : Nat × va_E), W1[k9]? = some x → x.1 ≤ T.heap.size := fun k9 x hx => by
      rw [← hW1] at hx
      by_cases hl : k9 < (X ++ va_pl L f).length
      · rw [List.getElem?_append_left hl] at hx
        exact Nat.le_of_lt ((hP k9 x hx).lt)
      · rw [List.getElem?_append_right (by omega)] at hx
        have h0 : k9 - (X ++ va_pl L f).length < 1 := (List.getElem?_eq_some_iff.mp hx).1
        rw [show k9 - (X ++ va_pl L f).length = 0 by omega] at hx
        cases hx
        exact Nat.le_refl _
    have hr : ∀ (k9 : Nat) (x : Nat × va_E), (((List.range n.toNatClampNeg).map (fun i => T.heap.size + 1 + i)).map (fun a => ((a, .inl (cy, z)) : Nat × va_E)))[k9]? = some x → x.1 = T.heap.size + 1 + k9 := fun k9 x hx => by
      rw [List.getElem?_map, List.getElem?_map] at hx
      by_cases h9 : k9 < n.toNatClampNeg
      · rw [List.getElem?_range h9] at hx
        cases hx
        rfl
      · have hn0 : (List.range n.toNatClampNeg)[k9]? = none := List.getElem?_eq_none (by rw [List.length_range]; omega)
        rw [hn0] at hx
        cases hx
    refine ⟨fun i j x y hi hj hxy => ?_, fun k9 x hx => ?_⟩
    · by_cases h1 : i < W1.length <;> by_cases h2 : j < W1.length
      · rw [List.getElem?_append_left h1] at hi
        rw [List.getElem?_append_left h2] at hj
        exact hD1.1 i j x y hi hj hxy
      · rw [List.getElem?_append_left h1] at hi
        rw [List.getElem?_append_right (by omega)] at hj
        have := hle _ _ hi
        have := hr _ _ hj
        omega
      · rw [List.getElem?_append_right (by omega)] at hi
        rw [List.getElem?_append_left h2] at hj
        have := hle _ _ hj
        have := hr _ _ hi
        omega
      · rw [List.getElem?_append_right (by omega)] at hi hj
        have := hr _ _ hi
        have := hr _ _ hj
        omega
    · by_cases h1 : k9 < W1.length
      · rw [List.getElem?_append_left h1] at hx
        exact hD1.2 k9 x hx
      · rw [List.getElem?_append_right (by omega)] at hx
        have := hr _ _ hx
        exact hA _ (by have := hS.1; omega)
  have hAr : ArrOfT s cA (.array ty) := fun N9 z9 => by
    exact ⟨(fun q hq => by cases hq), kA, fK, cy, fKk⟩
  have hK2 : va_K D cl (tys ++ [(cA, .array ty)]) s := ⟨hK.1, fun k9 x hx => by
    by_cases hl : k9 < tys.length
    · rw [List.getElem?_append_left hl] at hx
      exact hK.2 k9 x hx
    · rw [List.getElem?_append_right (by omega)] at hx
      have h0 : k9 - tys.length < 1 := (List.getElem?_eq_some_iff.mp hx).1
      rw [show k9 - tys.length = 0 by omega] at hx
      cases hx
      exact ⟨hAr, fA⟩⟩
  obtain ⟨t, a1, b1⟩ := kk T.heap.size (fun i => T.heap.size + 1 + i) cA F.heap (fun i j _ _ h => by have h9 : T.heap.size + 1 + i = T.heap.size + 1 + j := h; omega) hnl hK2 (by rw [← vr_rows hnm]; exact vr_lay hP2) (by rw [← vr_rows hnm]; exact vr_layD hD2) ⟨by rw [f1]; have := hS.1; omega, fun x h1 h2 => (hold x (Nat.lt_of_lt_of_le h1 hS.1)).trans (hS.2.1 x h1 h2), hS.2.2⟩ F rfl X'
  exact ⟨t, step t a1, b1⟩
end VGM
end
