/-! what holds between two calls: the class's cells and the reference's cells tell of the same land, rows, texts -/
abbrev xR : Type := xD × (Nat → Nat) × Nat × (Nat → Int32) × (Nat → Int32) × (Nat → Nat → Nat) × (Nat → Nat → Int32)
abbrev rD (R : xR) : xD := R.1
abbrev rg (R : xR) : Nat → Nat := R.2.1
abbrev re (R : xR) : Nat := R.2.2.1
abbrev rm (R : xR) : Nat → Int32 := R.2.2.2.1
abbrev rp (R : xR) : Nat → Int32 := R.2.2.2.2.1
abbrev rh (R : xR) : Nat → Nat → Nat := R.2.2.2.2.2.1
abbrev rn (R : xR) : Nat → Nat → Int32 := R.2.2.2.2.2.2
def OKR (R : xR) : Prop := DB (rD R) ∧ sm (rg R) (dn (rD R)) ≤ 90 ∧ re R ≤ 60 ∧ ∀ k, k < re R → sm (rh R k) (dn (rD R)) ≤ 90
def CR (v : xS) (A : Nat) (R : xR) : Prop := (v.1 A 0 = nI (dn (rD R)) ∧ v.1 A 1 = nI (db (rD R)) ∧ v.1 A 2 = nI (dF (rD R)) ∧ v.1 A 3 = nI (re R)) ∧
  (∀ i, i < db (rD R) → v.1 (A + 4) i = nI (dK (rD R) i) ∧ v.1 (A + 2) i = nI (dP (rD R) i) ∧ v.1 (A + 3) i = nI (dU (rD R) i) ∧ v.1 (A + 5) i = rm R i) ∧
  (∀ x, x < dn (rD R) → v.1 (A + 1) x = nI (rg R x)) ∧
  ∀ k, k < re R → v.1 (A + 6) k = rp R k ∧ (∀ x, x < dn (rD R) → v.1 (A + 7) (10 * k + x) = nI (rh R k x)) ∧ ∀ i, i < db (rD R) → v.1 (A + 8) (3 * k + i) = rn R k i
def MR (v : xS) (R : xR) : Prop := (v.1 200 8 = nI (dn (rD R)) ∧ v.1 200 9 = nI (db (rD R)) ∧ v.1 200 15 = nI (dF (rD R)) ∧ v.1 200 24 = nI (re R)) ∧
  (∀ i, i < db (rD R) → v.1 211 i = nI (dK (rD R) i) ∧ v.1 212 i = nI (dP (rD R) i) ∧ v.1 213 i = nI (dU (rD R) i) ∧ v.1 214 i = rm R i) ∧
  (∀ x, x < dn (rD R) → v.1 210 x = nI (rg R x)) ∧
  ∀ k, k < re R → v.1 225 k = rp R k ∧ (∀ x, x < dn (rD R) → v.1 226 (14 * k + x) = nI (rh R k x)) ∧ ∀ i, i < db (rD R) → v.1 226 (14 * k + 10 + i) = rn R k i
def KR (v : xS) (j : Nat) (R : xR) : Prop := (v.1 227 (920 * j) = nI (re R) ∧ v.1 227 (920 * j + 1) = nI (dF (rD R))) ∧
  (∀ i, i < db (rD R) → v.1 227 (920 * j + 2 + i) = nI (dP (rD R) i) ∧ v.1 227 (920 * j + 15 + i) = rm R i) ∧
  (∀ x, x < dn (rD R) → v.1 227 (920 * j + 5 + x) = nI (rg R x)) ∧
  ∀ k, k < re R → v.1 227 (920 * j + 20 + k) = rp R k ∧ (∀ x, x < dn (rD R) → v.1 227 (920 * j + 80 + (14 * k + x)) = nI (rh R k x)) ∧ ∀ i, i < db (rD R) → v.1 227 (920 * j + 80 + (14 * k + 10 + i)) = rn R k i
def LK (D D' : xD) : Prop := dn D' = dn D ∧ db D' = db D ∧ ∀ i, i < db D → dK D' i = dK D i ∧ dU D' i = dU D i
def Kept (z : xZ) (v : xS) (D : xD) : Prop := ∀ j, j < 3 → (v.1 101 j = 0 ∧ v.1 227 (920 * j) = -9) ∨ (v.1 101 j = 1 ∧ z.2 100 j = some (40 + 10 * j) ∧ ∃ R', OKR R' ∧ LK D (rD R') ∧ CR v (40 + 10 * j) R' ∧ KR v j R')
def Zk (z : xZ) : Prop := ∀ j, j < 3 → z.2 100 j = none ∨ (z.2 100 j = some (40 + 10 * j) ∧ xLandAt z (40 + 10 * j))
def SHL (v : xS) (s p m a1 a2 : Nat) : Prop := v.1 s 0 = nI m ∧ ∀ r, r < p → (v.1 (s + 2) r = -1 ∧ v.1 a1 r = -9) ∨ ∃ n, n ≤ m ∧ v.1 (s + 2) r = nI n ∧ v.1 a1 r = nI n ∧ ∀ k, k < n → v.1 (s + 3 + r) k = v.1 a2 (m * r + k)
def I0R (z : xZ) (v : xS) (R : xR) : Prop := Zk z ∧ OKR R ∧ CR v 30 R ∧ MR v R ∧ Kept z v (rD R) ∧ SHL v 1 6 40 203 204 ∧ SHL v 10 4 80 206 207
def FdR (v : xS) : Prop := v.1 0 9 = v.1 200 0 ∧ ∀ f, 1 ≤ f → f ≤ 5 → v.1 102 f = v.1 201 f
def Jv (z : xZ) (v : xS) (R : xR) (x : Int32) : Prop := I0R z v R ∧ FdR v ∧ v.1 0 10 = x
def InvR (z : xZ) (v : xS) (R : xR) : Prop := Jv z v R (v.1 200 2)
def fnd (v : xS) (f : Nat) : xS := wV (wV v 0 9 (nI f)) 102 f (v.1 102 f + 1)
def JF (z : xZ) (v : xS) (R : xR) (f : Nat) : Prop := I0R z v R ∧ (v.1 0 9 = nI f ∧ v.1 102 f = v.1 201 f + 1 ∧ ∀ k, 1 ≤ k → k ≤ 5 → k ≠ f → v.1 102 k = v.1 201 k) ∧ v.1 0 10 = v.1 200 2
/-! frames -/
theorem CR.fr {v v1 : xS} {A : Nat} {R : xR} (h : CR v A R) (hs : ∀ k, k < 9 → v1.1 (A + k) = v.1 (A + k)) : CR v1 A R := by
  obtain ⟨a, b, c, e⟩ := h
  have h0 := hs 0 (by decide)
  rw [Nat.add_zero] at h0
  refine ⟨?_, fun i hi => ?_, fun x hx => ?_, fun k hk => ?_⟩
  · rw [h0]; exact a
  · rw [hs 4 (by decide), hs 2 (by decide), hs 3 (by decide), hs 5 (by decide)]; exact b i hi
  · rw [hs 1 (by decide)]; exact c x hx
  · rw [hs 6 (by decide), hs 7 (by decide), hs 8 (by decide)]; exact e k hk
def MF (v v1 : xS) : Prop := (v1.1 200 8 = v.1 200 8 ∧ v1.1 200 9 = v.1 200 9 ∧ v1.1 200 15 = v.1 200 15 ∧ v1.1 200 24 = v.1 200 24) ∧ Back v v1 ∧ v1.1 211 = v.1 211 ∧ v1.1 212 = v.1 212 ∧ v1.1 213 = v.1 213 ∧ v1.1 225 = v.1 225 ∧ v1.1 226 = v.1 226
theorem MR.fr {v v1 : xS} {R : xR} (h : MR v R) (hD : DB (rD R)) (hs : MF v v1) : MR v1 R := by
  obtain ⟨a, b, c, e⟩ := h
  obtain ⟨⟨f1, f2, f3, f4⟩, ⟨b1, b2⟩, k1, k2, k3, k5, k6⟩ := hs
  have hn := hD.1
  have hb := hD.2.1
  refine ⟨?_, fun i hi => ?_, fun x hx => ?_, fun k hk => ?_⟩
  · rw [f1, f2, f3, f4]; exact a
  · rw [k1, k2, k3, b2 i (by omega)]; exact b i hi
  · rw [b1 x (by omega)]; exact c x hx
  · rw [k5, k6]; exact e k hk
theorem KR.fr {v v1 : xS} {j : Nat} {R : xR} (h : KR v j R) (hs : v1.1 227 = v.1 227) : KR v1 j R := by
  unfold KR
  rw [hs]
  exact h
theorem Kept.fr {z : xZ} {v v1 : xS} {D : xD} (h : Kept z v D) (h1 : v1.1 101 = v.1 101) (h2 : v1.1 227 = v.1 227) (h3 : ∀ a, 40 ≤ a → a < 70 → v1.1 a = v.1 a) : Kept z v1 D := by
  intro j hj
  rw [h1, h2]
  rcases h j hj with q | ⟨q1, q2, R', q4, q5, q6, q7⟩
  · exact Or.inl q
  · exact Or.inr ⟨q1, q2, R', q4, q5, q6.fr (fun k hk => h3 _ (by omega) (by omega)), q7.fr h2⟩
theorem Kept.like {z : xZ} {v : xS} {D D' : xD} (h : Kept z v D) (hl : LK D' D) : Kept z v D' := by
  intro j hj
  rcases h j hj with q | ⟨q1, q2, R', q4, q5, q6, q7⟩
  · exact Or.inl q
  · refine Or.inr ⟨q1, q2, R', q4, ⟨q5.1.trans hl.1, q5.2.1.trans hl.2.1, fun i hi => ?_⟩, q6, q7⟩
    have a := q5.2.2 i (by rw [hl.2.1]; exact hi)
    have b := hl.2.2 i hi
    exact ⟨a.1.trans b.1, a.2.trans b.2⟩
theorem SHL.fr {v v1 : xS} {s p m a1 a2 : Nat} (h : SHL v s p m a1 a2) (h0 : v1.1 s = v.1 s) (h1 : ∀ k, k < p + 1 → v1.1 (s + 2 + k) = v.1 (s + 2 + k)) (h2 : v1.1 a1 = v.1 a1) (h3 : v1.1 a2 = v.1 a2) : SHL v1 s p m a1 a2 := by
  unfold SHL
  rw [h0, h2, h3]
  refine ⟨h.1, fun r hr => ?_⟩
  have e0 := h1 0 (by omega)
  have e1 := h1 (r + 1) (by omega)
  rw [Nat.add_zero] at e0
  rw [show s + 2 + (r + 1) = s + 3 + r by omega] at e1
  rw [e0, e1]
  exact h.2 r hr
theorem SHL.ws {v : xS} {s p m a1 a2 : Nat} (h : SHL v s p m a1 a2) (hp : p ≤ 6) (hm : m ≤ 80) : WS v s p m := by
  refine ⟨⟨hp, hm⟩, h.1, fun r hr => ?_⟩
  rcases h.2 r hr with ⟨q, _⟩ | ⟨n, hn, q, _⟩
  · rw [q, i32_m1]; omega
  · rw [q, nIi (by omega)]; omega
/-- rows that may change without a trace -/
def scr : List Nat := [20, 21, 22, 23, 24, 70, 71, 72, 73, 74, 75, 76, 77, 78, 79, 80, 90, 91, 92, 93, 94, 95, 96, 97, 98, 99, 200, 205, 210, 214, 219, 220, 221, 222, 223, 228, 229, 230, 231, 232, 240]
def QS (v v1 : xS) : Prop := (∀ a, a ∉ scr → v1.1 a = v.1 a) ∧ (v1.1 200 0 = v.1 200 0 ∧ v1.1 200 2 = v.1 200 2 ∧ v1.1 200 8 = v.1 200 8 ∧ v1.1 200 9 = v.1 200 9 ∧ v1.1 200 15 = v.1 200 15 ∧ v1.1 200 24 = v.1 200 24) ∧ Back v v1
theorem QS.rf (v : xS) : QS v v := ⟨fun _ _ => rfl, ⟨rfl, rfl, rfl, rfl, rfl, rfl⟩, Back.rf v⟩
theorem QS.trans {v v1 v2 : xS} (h : QS v v1) (h' : QS v1 v2) : QS v v2 :=
  ⟨fun a ha => (h'.1 a ha).trans (h.1 a ha), ⟨h'.2.1.1.trans h.2.1.1, h'.2.1.2.1.trans h.2.1.2.1, h'.2.1.2.2.1.trans h.2.1.2.2.1, h'.2.1.2.2.2.1.trans h.2.1.2.2.2.1, h'.2.1.2.2.2.2.1.trans h.2.1.2.2.2.2.1, h'.2.1.2.2.2.2.2.trans h.2.1.2.2.2.2.2⟩, h.2.2.trans h'.2.2⟩
/-- only rows of S, none of them 200, 210, 214 -/
def sub (S S' : List Nat) : Bool := S.all (fun a => S'.contains a)
theorem sub_mem {S S' : List Nat} (h : sub S S' = true) {a : Nat} (ha : a ∈ S) : a ∈ S' := by
  have := List.all_eq_true.mp h a ha
  simpa using this
theorem QS.of {S : List Nat} {v v1 : xS} (h : Same S v v1) (h1 : sub S scr = true := by decide) (h2 : 200 ∉ S := by decide) (h3 : 210 ∉ S := by decide) (h4 : 214 ∉ S := by decide) : QS v v1 := by
  refine ⟨fun a ha => h.2 a (fun q => ha (sub_mem h1 q)), ?_, fun x _ => by rw [h.2 210 h3], fun x _ => by rw [h.2 214 h4]⟩
  rw [h.2 200 h2]
  exact ⟨rfl, rfl, rfl, rfl, rfl, rfl⟩
theorem QS.ofB {S : List Nat} {v v1 : xS} (h : Same S v v1) (hb : Back v v1) (h1 : sub S scr = true := by decide) (h2 : 200 ∉ S := by decide) : QS v v1 := by
  refine ⟨fun a ha => h.2 a (fun q => ha (sub_mem h1 q)), ?_, hb⟩
  rw [h.2 200 h2]
  exact ⟨rfl, rfl, rfl, rfl, rfl, rfl⟩
theorem I0R.fr {z : xZ} {v v1 : xS} {R : xR} (h : I0R z v R) (hr : ∀ a, a ∉ scr → a ∉ [0, 102, 201] → v1.1 a = v.1 a) (hf : v1.1 200 8 = v.1 200 8 ∧ v1.1 200 9 = v.1 200 9 ∧ v1.1 200 15 = v.1 200 15 ∧ v1.1 200 24 = v.1 200 24) (hb : Back v v1) : I0R z v1 R := by
  obtain ⟨h1, h2, h3, h4, h5, h6, h7⟩ := h
  have k : ∀ a, (∀ s, s ∈ scr → s ≠ a) → a ∉ [0, 102, 201] → v1.1 a = v.1 a := fun a q => hr a (fun w => q a w rfl)
  refine ⟨h1, h2, h3.fr (fun j hj => ?_), h4.fr h2.1 ⟨hf, hb, hr 211 (by decide) (by decide), hr 212 (by decide) (by decide), hr 213 (by decide) (by decide), hr 225 (by decide) (by decide), hr 226 (by decide) (by decide)⟩, h5.fr (hr 101 (by decide) (by decide)) (hr 227 (by decide) (by decide)) (fun a q1 q2 => ?_), h6.fr (hr 1 (by decide) (by decide)) (fun j hj => ?_) (hr 203 (by decide) (by decide)) (hr 204 (by decide) (by decide)), h7.fr (hr 10 (by decide) (by decide)) (fun j hj => ?_) (hr 206 (by decide) (by decide)) (hr 207 (by decide) (by decide))⟩
  · exact hr _ (by simp [scr]; omega) (by simp; omega)
  · exact hr _ (by simp [scr]; omega) (by simp; omega)
  · exact hr _ (by simp [scr]; omega) (by simp; omega)
  · exact hr _ (by simp [scr]; omega) (by simp; omega)
theorem Jv.q {z : xZ} {v v1 : xS} {R : xR} {x : Int32} (h : Jv z v R x) (hs : QS v v1) : Jv z v1 R x := by
  obtain ⟨h1, ⟨h2, h3⟩, h4⟩ := h
  refine ⟨h1.fr (fun a ha _ => hs.1 a ha) ⟨hs.2.1.2.2.1, hs.2.1.2.2.2.1, hs.2.1.2.2.2.2.1, hs.2.1.2.2.2.2.2⟩ hs.2.2, ⟨?_, fun f q1 q2 => ?_⟩, ?_⟩
  · rw [hs.1 0 (by decide), hs.2.1.1]; exact h2
  · rw [hs.1 102 (by decide), hs.1 201 (by decide)]; exact h3 f q1 q2
  · rw [hs.1 0 (by decide)]; exact h4
theorem InvR.q {z : xZ} {v v1 : xS} {R : xR} (h : InvR z v R) (hs : QS v v1) : InvR z v1 R := by
  unfold InvR
  rw [hs.2.1.2.1]
  exact Jv.q h hs
theorem I0R.w {z : xZ} {v : xS} {R : xR} (h : I0R z v R) {a k : Nat} {x : Int32} (ha : (a = 0 ∨ a = 102 ∨ a = 201) ∨ (a = 200 ∧ (k = 0 ∨ k = 2))) : I0R z (wV v a k x) R := by
  refine h.fr (fun b h1 h2 => ?_) ?_ ⟨fun y _ => ?_, fun y _ => ?_⟩
  · rw [wV_ne (by intro q; rcases ha with (q2 | q2 | q2) | q2 <;> simp [q, q2, scr] at h1 h2)]
  · rcases ha with q2 | q2
    · rw [wV_ne (by omega)]; exact ⟨rfl, rfl, rfl, rfl⟩
    · rw [q2.1, wV_other _ _ _ _ _ (by omega), wV_other _ _ _ _ _ (by omega), wV_other _ _ _ _ _ (by omega), wV_other _ _ _ _ _ (by omega)]; exact ⟨rfl, rfl, rfl, rfl⟩
  · rw [wV_ne (by omega)]
  · rw [wV_ne (by omega)]
theorem Jv.tell {z : xZ} {v : xS} {R : xR} {x y : Int32} (h : Jv z v R x) : Jv z (wV v 0 10 y) R y := by
  obtain ⟨h1, ⟨h2, h3⟩, h4⟩ := h
  refine ⟨h1.w (by simp), ⟨?_, fun f q1 q2 => ?_⟩, wV_at _ _ _ _⟩
  · rw [wV_other _ _ _ _ _ (by decide), wV_ne (by decide)]; exact h2
  · rw [wV_ne (by decide), wV_ne (by decide)]; exact h3 f q1 q2
theorem Jv.done {z : xZ} {v : xS} {R : xR} {x : Int32} (h : Jv z v R x) : InvR z (wV v 200 2 x) R := by
  obtain ⟨h1, ⟨h2, h3⟩, h4⟩ := h
  refine ⟨h1.w (by simp), ⟨?_, fun f q1 q2 => ?_⟩, ?_⟩
  · rw [wV_ne (by decide), wV_other _ _ _ _ _ (by decide)]; exact h2
  · rw [wV_ne (by decide), wV_ne (by decide)]; exact h3 f q1 q2
  · rw [wV_ne (by decide), wV_at]; exact h4
theorem InvR.find {z : xZ} {v : xS} {R : xR} (h : InvR z v R) {f : Nat} (h1 : 1 ≤ f) (h5 : f ≤ 5) : JF z (fnd v f) R f := by
  obtain ⟨a, ⟨b, c⟩, e⟩ := h
  unfold fnd
  refine ⟨(a.w (by simp)).w (by simp), ⟨?_, ?_, fun k q1 q2 q3 => ?_⟩, ?_⟩
  · rw [wV_ne (by decide), wV_at]
  · rw [wV_at, wV_ne (by decide), wV_ne (by decide), c f h1 h5]
  · rw [wV_other _ _ _ _ _ q3, wV_ne (by decide), wV_ne (by decide), wV_ne (by decide)]; exact c k q1 q2
  · rw [wV_ne (by decide), wV_other _ _ _ _ _ (by decide), wV_ne (by decide), wV_ne (by decide)]; exact e
theorem JF.done {z : xZ} {v : xS} {R : xR} {f : Nat} (h : JF z v R f) : InvR z (met v f) R := by
  obtain ⟨a, ⟨b, c, d⟩, e⟩ := h
  unfold met
  refine ⟨(a.w (by simp)).w (by simp), ⟨?_, fun k q1 q2 => ?_⟩, ?_⟩
  · rw [wV_ne (by decide), wV_ne (by decide), wV_ne (by decide), wV_at]; exact b
  · rw [wV_ne (by decide), wV_ne (by decide)]
    by_cases q : k = f
    · rw [q, wV_at]; exact c
    · rw [wV_other _ _ _ _ _ q, wV_ne (by decide)]; exact d k q1 q2 q
  · rw [wV_ne (by decide), wV_ne (by decide), wV_ne (by decide), wV_other _ _ _ _ _ (by decide)]; exact e
/-! what the contracts want -/
theorem I0R.D {z : xZ} {v : xS} {R : xR} (h : I0R z v R) : DB (rD R) := h.2.1.1
theorem I0R.s {z : xZ} {v : xS} {R : xR} (h : I0R z v R) : sm (rg R) (dn (rD R)) ≤ 90 := h.2.1.2.1
theorem I0R.LC {z : xZ} {v : xS} {R : xR} (h : I0R z v R) : LC v (rD R) := by
  obtain ⟨a, b, _⟩ := h.2.2.1
  exact ⟨a.1, a.2.1, a.2.2.1, fun i hi => ⟨(b i hi).1, (b i hi).2.1, (b i hi).2.2.1⟩⟩
theorem I0R.LM {z : xZ} {v : xS} {R : xR} (h : I0R z v R) : LM v (rD R) := by
  obtain ⟨a, b, _⟩ := h.2.2.2.1
  exact ⟨a.1, a.2.1, a.2.2.1, fun i hi => ⟨(b i hi).1, (b i hi).2.1, (b i hi).2.2.1⟩⟩
theorem I0R.g {z : xZ} {v : xS} {R : xR} (h : I0R z v R) : Gd v 31 (rD R) (rg R) := h.2.2.1.2.2.1
theorem I0R.G {z : xZ} {v : xS} {R : xR} (h : I0R z v R) : Gd v 210 (rD R) (rg R) := h.2.2.2.1.2.2.1
theorem I0R.e {z : xZ} {v : xS} {R : xR} (h : I0R z v R) : v.1 30 3 = nI (re R) := h.2.2.1.1.2.2.2
theorem I0R.E {z : xZ} {v : xS} {R : xR} (h : I0R z v R) : v.1 200 24 = nI (re R) := h.2.2.2.1.1.2.2.2
theorem I0R.rows {z : xZ} {v : xS} {R : xR} (h : I0R z v R) : SHL v 1 6 40 203 204 := h.2.2.2.2.2.1
theorem I0R.texts {z : xZ} {v : xS} {R : xR} (h : I0R z v R) : SHL v 10 4 80 206 207 := h.2.2.2.2.2.2
theorem I0R.W1 {z : xZ} {v : xS} {R : xR} (h : I0R z v R) : WS v 1 6 40 := h.rows.ws (by decide) (by decide)
theorem I0R.W10 {z : xZ} {v : xS} {R : xR} (h : I0R z v R) : WS v 10 4 80 := h.texts.ws (by decide) (by decide)
/-- both answer the same, and all holds again -/
abbrev Pr (z : xZ) (r r' : Int32) (v2 : xS) : Prop := r' = r ∧ ∃ R', InvR z v2 R'
theorem Pr.mk {z : xZ} {r r' : Int32} {v : xS} {R : xR} (e : r' = r) (h : InvR z v R) : Pr z r r' v := ⟨e, R, h⟩
section PRIV
variable {G : xG} {d : Nat} {z : xZ} {v : xS}
theorem ok_tell {Q : Int32 → xS → Prop} (B : Base z) {a r : Int32} (hq : Q r (wV v 0 10 a)) : oX5_tell G (d + 1) [.ref 0, .int r, .int a] z v Q :=
  vc_X5_tell B (fun v1 e => by rw [e]; exact hq)
theorem ok_find {Q : Int32 → xS → Prop} (B : Base z) {f : Nat} (h1 : 1 ≤ f) (h5 : f ≤ 5) (hq : Q (-3) (fnd v f)) : oX5_find G (d + 1) [.ref 0, .int (nI f)] z v Q := by
  have vf := vpN (j := f) (n := 6) (by omega) (by omega)
  refine vc_X5_find B (bf (by rw [i32lt, i32_1, nIi (by omega)]; omega) (bf (by rw [i32lt, nIi (by omega), show (5 : Int32).toInt = 5 by decide]; omega) (fun v1 e1 => ⟨vf, vf, fun v4 e4 => ?_⟩)))
  rw [clN (by omega), e1, wV_ne (by decide)] at e4
  subst e4
  exact hq
end PRIV
