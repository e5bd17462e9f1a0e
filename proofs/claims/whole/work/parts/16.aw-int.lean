/-! contracts by kind of answer: int (or boolean), long, none; nothing is made -/
def PI (z : xZ) (Q : Int32 → xS → Prop) : Option Value → xZ → xS → Prop := fun r z1 v1 => z1 = z ∧ ∃ i, r = some (.int i) ∧ Q i v1
def PL (z : xZ) (Q : Int64 → xS → Prop) : Option Value → xZ → xS → Prop := fun r z1 v1 => z1 = z ∧ ∃ i, r = some (.long i) ∧ Q i v1
def PV (z : xZ) (Q : xS → Prop) : Option Value → xZ → xS → Prop := fun r z1 v1 => z1 = z ∧ r = none ∧ Q v1
abbrev OI (G : xG) (d : Nat) (y : MethodName) (cc : ByteArray) (nL : Nat) (ret : Option FieldType) (as : List Value) (z : xZ) (v : xS) (Q : Int32 → xS → Prop) : Prop := Ok G d 0 0 y cc nL ret as z v (PI z Q)
abbrev OL (G : xG) (d : Nat) (y : MethodName) (cc : ByteArray) (nL : Nat) (ret : Option FieldType) (as : List Value) (z : xZ) (v : xS) (Q : Int64 → xS → Prop) : Prop := Ok G d 0 0 y cc nL ret as z v (PL z Q)
abbrev OV (G : xG) (d : Nat) (y : MethodName) (cc : ByteArray) (nL : Nat) (ret : Option FieldType) (as : List Value) (z : xZ) (v : xS) (Q : xS → Prop) : Prop := Ok G d 0 0 y cc nL ret as z v (PV z Q)
theorem OI.mono {G : xG} {d : Nat} {y : MethodName} {cc : ByteArray} {nL : Nat} {ret : Option FieldType} {as : List Value} {z : xZ} {v : xS} {Q Q' : Int32 → xS → Prop} (h : OI G d y cc nL ret as z v Q') (hQ : ∀ i v1, Q' i v1 → Q i v1) : OI G d y cc nL ret as z v Q := Ok.mono h (fun _ _ _ ⟨h1, i, h2, h3⟩ => ⟨h1, i, h2, hQ _ _ h3⟩)
theorem OL.mono {G : xG} {d : Nat} {y : MethodName} {cc : ByteArray} {nL : Nat} {ret : Option FieldType} {as : List Value} {z : xZ} {v : xS} {Q Q' : Int64 → xS → Prop} (h : OL G d y cc nL ret as z v Q') (hQ : ∀ i v1, Q' i v1 → Q i v1) : OL G d y cc nL ret as z v Q := Ok.mono h (fun _ _ _ ⟨h1, i, h2, h3⟩ => ⟨h1, i, h2, hQ _ _ h3⟩)
theorem OV.mono {G : xG} {d : Nat} {y : MethodName} {cc : ByteArray} {nL : Nat} {ret : Option FieldType} {as : List Value} {z : xZ} {v : xS} {Q Q' : xS → Prop} (h : OV G d y cc nL ret as z v Q') (hQ : ∀ v1, Q' v1 → Q v1) : OV G d y cc nL ret as z v Q := Ok.mono h (fun _ _ _ ⟨h1, h2, h3⟩ => ⟨h1, h2, hQ _ h3⟩)
section AWI
variable {G : xG} {d : Nat} {mc ms : Nat} {y : MethodName} {cc : ByteArray} {nL : Nat} {ret : Option FieldType} {own : String} {kc kn pc : Nat} {L : List (Option Value)} {st : List Value} {z : xZ} {v : xS} {Q : Option Value → xZ → xS → Prop} {y' : MethodName} {cc' : ByteArray} {nL' : Nat} {ret' : Option FieldType} {as st0 : List Value} {idx a c : Nat}
theorem AW_vI {QI : Int32 → xS → Prop} (hd : decode cc pc = .ok (.invokevirtual idx, 3)) (ha : xin z a c (xcN c)) (hc : c < 7) (hy : xcn c = y'.cls) (hm : xmv y' cc' nL' ret' as.length) (hi : Cond.instanceMethod y' ∈ xgt ∧ Cond.selects y'.cls y' y' ∈ xgt) (hlk : Cond.methodLink own idx y' ∈ xgt) (hst : (st.map fun w => w.category).sum ≤ 8) (h0 : as.reverse ++ .ref a :: st = st0) (h1 : kc ≤ mc) (h2 : kn ≤ ms)
    (hok : OI G d y' cc' nL' ret' (.ref a :: as) z v QI) (kk : ∀ (i : Int32) (v1 : xS), QI i v1 → AW G (d + 1) mc ms y cc nL ret own kc kn (pc + 3) L (.int i :: st) z v1 Q) : AW G (d + 1) mc ms y cc nL ret own kc kn pc L st0 z v Q := by
  subst h0
  exact AW_callV hd ha hc hy hm hi hlk (Nat.lt_succ_self d) hst h1 h2 (Q' := fun r v1 => ∃ i, r = some (.int i) ∧ QI i v1) hok (fun r v1 ⟨i, e, h⟩ => by subst e; exact kk i v1 h)
theorem AW_vL {QI : Int64 → xS → Prop} (hd : decode cc pc = .ok (.invokevirtual idx, 3)) (ha : xin z a c (xcN c)) (hc : c < 7) (hy : xcn c = y'.cls) (hm : xmv y' cc' nL' ret' as.length) (hi : Cond.instanceMethod y' ∈ xgt ∧ Cond.selects y'.cls y' y' ∈ xgt) (hlk : Cond.methodLink own idx y' ∈ xgt) (hst : (st.map fun w => w.category).sum ≤ 8) (h0 : as.reverse ++ .ref a :: st = st0) (h1 : kc ≤ mc) (h2 : kn ≤ ms)
    (hok : OL G d y' cc' nL' ret' (.ref a :: as) z v QI) (kk : ∀ (i : Int64) (v1 : xS), QI i v1 → AW G (d + 1) mc ms y cc nL ret own kc kn (pc + 3) L (.long i :: st) z v1 Q) : AW G (d + 1) mc ms y cc nL ret own kc kn pc L st0 z v Q := by
  subst h0
  exact AW_callV hd ha hc hy hm hi hlk (Nat.lt_succ_self d) hst h1 h2 (Q' := fun r v1 => ∃ i, r = some (.long i) ∧ QI i v1) hok (fun r v1 ⟨i, e, h⟩ => by subst e; exact kk i v1 h)
theorem AW_vV {QI : xS → Prop} (hd : decode cc pc = .ok (.invokevirtual idx, 3)) (ha : xin z a c (xcN c)) (hc : c < 7) (hy : xcn c = y'.cls) (hm : xmv y' cc' nL' ret' as.length) (hi : Cond.instanceMethod y' ∈ xgt ∧ Cond.selects y'.cls y' y' ∈ xgt) (hlk : Cond.methodLink own idx y' ∈ xgt) (hst : (st.map fun w => w.category).sum ≤ 8) (h0 : as.reverse ++ .ref a :: st = st0) (h1 : kc ≤ mc) (h2 : kn ≤ ms)
    (hok : OV G d y' cc' nL' ret' (.ref a :: as) z v QI) (kk : ∀ (v1 : xS), QI v1 → AW G (d + 1) mc ms y cc nL ret own kc kn (pc + 3) L st z v1 Q) : AW G (d + 1) mc ms y cc nL ret own kc kn pc L st0 z v Q := by
  subst h0
  exact AW_callV hd ha hc hy hm hi hlk (Nat.lt_succ_self d) hst h1 h2 (Q' := fun r v1 => r = none ∧ QI v1) hok (fun r v1 ⟨e, h⟩ => by subst e; exact kk v1 h)
theorem AW_sI {QI : Int32 → xS → Prop} (hd : decode cc pc = .ok (.invokestatic idx, 3)) (hm : xmv y' cc' nL' ret' as.length) (hi : Cond.static y' ∈ xgt) (hlk : Cond.methodLink own idx y' ∈ xgt) (hst : (st.map fun w => w.category).sum ≤ 8) (h0 : as.reverse ++ st = st0) (h1 : kc ≤ mc) (h2 : kn ≤ ms)
    (hok : OI G d y' cc' nL' ret' as z v QI) (kk : ∀ (i : Int32) (v1 : xS), QI i v1 → AW G (d + 1) mc ms y cc nL ret own kc kn (pc + 3) L (.int i :: st) z v1 Q) : AW G (d + 1) mc ms y cc nL ret own kc kn pc L st0 z v Q := by
  subst h0
  exact AW_callS hd hm hi hlk (Nat.lt_succ_self d) hst h1 h2 (Q' := fun r v1 => ∃ i, r = some (.int i) ∧ QI i v1) hok (fun r v1 ⟨i, e, h⟩ => by subst e; exact kk i v1 h)
theorem AW_rI {QI : Int32 → xS → Prop} {x : Int32} {ty : FieldType} (hd : decode cc pc = .ok (.ireturn, 1)) (hr : ret = some ty) (hn : narrow ty (.int x) = .int x) (hq : QI x v) : AW G d 0 0 y cc nL ret own 0 0 pc L [.int x] z v (PI z QI) := AW_iret hd hr hn (Nat.le_refl 0) (Nat.le_refl 0) ⟨rfl, x, rfl, hq⟩
theorem AW_rL {QI : Int64 → xS → Prop} {x : Int64} (hd : decode cc pc = .ok (.lreturn, 1)) (hr : ret = some .long) (hq : QI x v) : AW G d 0 0 y cc nL ret own 0 0 pc L [.long x] z v (PL z QI) := AW_lret hd hr (Nat.le_refl 0) (Nat.le_refl 0) ⟨rfl, x, rfl, hq⟩
theorem AW_rV {QI : xS → Prop} (hd : decode cc pc = .ok (.return_, 1)) (hr : ret = none) (hq : QI v) : AW G d 0 0 y cc nL ret own 0 0 pc L [] z v (PV z QI) := AW_vret hd hr (Nat.le_refl 0) (Nat.le_refl 0) ⟨rfl, rfl, hq⟩
/-- fewer locals are known -/
def xle : List (Option Value) → List (Option Value) → Prop
  | [], _ => True
  | none :: t', _ :: t => xle t' t
  | some w :: t', o :: t => o = some w ∧ xle t' t
  | none :: t', [] => xle t' []
  | some _ :: _, [] => False
theorem xle_at : ∀ (L' L : List (Option Value)), xle L' L → ∀ (i : Nat) (w : Value), L'[i]? = some (some w) → L[i]? = some (some w)
  | [], _, _, i, w, h => by simp at h
  | none :: t', o :: t, hx, i, w, h => by
    cases i with
    | zero => simp at h
    | succ i => simpa using xle_at t' t hx i w (by simpa using h)
  | some w' :: t', o :: t, hx, i, w, h => by
    cases i with
    | zero =>
      simp at h
      subst h
      simpa using hx.1
    | succ i => simpa using xle_at t' t hx.2 i w (by simpa using h)
  | none :: t', [], hx, i, w, h => by
    cases i with
    | zero => simp at h
    | succ i => simpa using xle_at t' [] hx i w (by simpa using h)
theorem AW_sub {L' : List (Option Value)} (hx : xle L' L) (k : AW G d mc ms y cc nL ret own kc kn pc L' st z v Q) : AW G d mc ms y cc nL ret own kc kn pc L st z v Q := by
  intro z0 v0 ρ0 sz p e s m args below meth c' C ρ H locs ls g hP hD hS hl
  refine k z0 v0 ρ0 sz p e s m args below meth c' C ρ H locs ls g hP hD hS ⟨hl.1, hl.2.1, fun q hq => hl.2.2 q ?_⟩
  obtain ⟨i, w, h1, h2⟩ := (xprs_mem L' 0 q).mp hq
  exact (xprs_mem L 0 q).mpr ⟨i, w, xle_at L' L hx i w h1, h2⟩
end AWI
/-- the cells that the constructors have made are there, and point to each other as they should -/
def Base (z : xZ) : Prop := (∀ a, a ∈ xBase → a ∈ z.1) ∧ ∀ a, a ∈ xBase → a ≠ 100 → ∀ k b, RF a k = some b → z.2 a k = some b
theorem Base.i {z : xZ} (B : Base z) {a t n : Nat} (h : a ∈ xBase) (hs : SH a = (t, n)) : xin z a t n := ⟨B.1 a h, hs⟩
