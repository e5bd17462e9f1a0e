/-! numbers and small words for the contracts -/
theorem i32lt (a b : Int32) : a < b ↔ a.toInt < b.toInt := Int32.lt_iff_toInt_lt
theorem i32le (a b : Int32) : a ≤ b ↔ a.toInt ≤ b.toInt := Int32.le_iff_toInt_le
theorem i32eq (a b : Int32) : a = b ↔ a.toInt = b.toInt := Int32.toInt_inj.symm
theorem i32r (x : Int32) : -2147483648 ≤ x.toInt ∧ x.toInt < 2147483648 := by
  have h1 := Int32.le_toInt x
  have h2 := Int32.toInt_lt x
  constructor
  · simpa using h1
  · simpa using h2
theorem i32_0 : (0 : Int32).toInt = 0 := by decide
theorem i32_m1 : (-1 : Int32).toInt = -1 := by decide
theorem nIi {n : Nat} (h : n < 2147483648) : (nI n).toInt = (n : Int) := nI_toInt h
theorem bm32 {w : Int} (h1 : -2147483648 ≤ w) (h2 : w < 2147483648) : w.bmod (2 ^ 32) = w := by
  apply Int.bmod_eq_of_le <;> omega
theorem i32add {x y : Int32} (h1 : -2147483648 ≤ x.toInt + y.toInt) (h2 : x.toInt + y.toInt < 2147483648) : (x + y).toInt = x.toInt + y.toInt := by
  rw [Int32.toInt_add]; exact bm32 h1 h2
theorem i32sub {x y : Int32} (h1 : -2147483648 ≤ x.toInt - y.toInt) (h2 : x.toInt - y.toInt < 2147483648) : (x - y).toInt = x.toInt - y.toInt := by
  rw [Int32.toInt_sub]; exact bm32 h1 h2
theorem i32mul {x y : Int32} (h1 : -2147483648 ≤ x.toInt * y.toInt) (h2 : x.toInt * y.toInt < 2147483648) : (x * y).toInt = x.toInt * y.toInt := by
  rw [Int32.toInt_mul]; exact bm32 h1 h2
theorem i32nat {x : Int32} (h : 0 ≤ x.toInt) : ∃ j : Nat, x = nI j ∧ (j : Int) = x.toInt ∧ j < 2147483648 := by
  have hr := i32r x
  refine ⟨x.toInt.toNat, ?_, by omega, by omega⟩
  rw [i32eq, nIi (by omega)]
  omega
theorem nIinj {a b : Nat} (ha : a < 2147483648) (hb : b < 2147483648) (h : nI a = nI b) : a = b := by
  have := (i32eq _ _).mp h
  rw [nIi ha, nIi hb] at this
  omega
/-- an index that is one -/
def inR (x : Int32) (n : Nat) : Prop := 0 ≤ x.toInt ∧ x.toInt < n
theorem inR_of {x : Int32} {n : Nat} (h : inR x n) : ∃ j, j < n ∧ x = nI j ∧ j < 2147483648 := by
  obtain ⟨j, e, h2, h3⟩ := i32nat h.1
  exact ⟨j, by have := h.2; omega, e, h3⟩
theorem inR_nI {j n : Nat} (h : j < n) (hj : j < 2147483648) : inR (nI j) n := by
  unfold inR
  rw [nIi hj]
  omega
theorem vpR {x : Int32} {n : Nat} (h : inR x n) : vp_in x n := vp_in_iff.mpr h
theorem vpN {j n : Nat} (h : j < n) (hn : n < 2147483648) : vp_in (nI j) n := vp_in_nI h hn
theorem clN {j : Nat} (h : j < 2147483648) : (nI j).toNatClampNeg = j := nI_clamp h
theorem qI {Q : Int32 → xS → Prop} {x x' : Int32} {v : xS} (e : x = x') (h : Q x' v) : Q x v := e ▸ h
theorem qL {Q : Int64 → xS → Prop} {x x' : Int64} {v : xS} (e : x = x') (h : Q x' v) : Q x v := e ▸ h
/-- the branches behind an answer of 0 or 1 -/
theorem br1 {A B : Prop} (h : B) : ((1 : Int32) = 0 → A) ∧ (¬ (1 : Int32) = 0 → B) := ⟨fun q => absurd q (by decide), fun _ => h⟩
theorem br0 {A B : Prop} (h : A) : ((0 : Int32) = 0 → A) ∧ (¬ (0 : Int32) = 0 → B) := ⟨fun _ => h, fun q => absurd rfl q⟩
theorem nb1 {A B : Prop} (h : A) : (¬ (1 : Int32) = 0 → A) ∧ ((1 : Int32) = 0 → B) := ⟨fun _ => h, fun q => absurd q (by decide)⟩
theorem nb0 {A B : Prop} (h : B) : (¬ (0 : Int32) = 0 → A) ∧ ((0 : Int32) = 0 → B) := ⟨fun q => absurd rfl q, fun _ => h⟩
theorem bt {c A B : Prop} (hc : c) (h : A) : (c → A) ∧ (¬ c → B) := ⟨fun _ => h, fun q => absurd hc q⟩
theorem bf {c A B : Prop} (hc : ¬ c) (h : B) : (c → A) ∧ (¬ c → B) := ⟨fun q => absurd q hc, fun _ => h⟩
theorem nt {c A B : Prop} (hc : ¬ c) (h : A) : (¬ c → A) ∧ (c → B) := ⟨fun _ => h, fun q => absurd q hc⟩
theorem nf {c A B : Prop} (hc : c) (h : B) : (¬ c → A) ∧ (c → B) := ⟨fun q => absurd hc q, fun _ => h⟩
/-- only cells of S have changed -/
def Same (S : List Nat) (v v1 : xS) : Prop := v1.2 = v.2 ∧ ∀ a, a ∉ S → v1.1 a = v.1 a
theorem Same.rf (S : List Nat) (v : xS) : Same S v v := ⟨rfl, fun _ _ => rfl⟩
theorem Same.trans {S : List Nat} {v v1 v2 : xS} (h : Same S v v1) (h' : Same S v1 v2) : Same S v v2 := ⟨h'.1.trans h.1, fun a ha => (h'.2 a ha).trans (h.2 a ha)⟩
theorem Same.mono {S S' : List Nat} {v v1 : xS} (h : Same S v v1) (hS : ∀ a, a ∈ S → a ∈ S') : Same S' v v1 := ⟨h.1, fun a ha => h.2 a (fun q => ha (hS a q))⟩
theorem Same.wV {S : List Nat} {v v1 : xS} (h : Same S v v1) {a k : Nat} {x : Int32} (ha : a ∈ S) : Same S v (wV v1 a k x) := by
  refine ⟨h.1, fun b hb => ?_⟩
  have hne : b ≠ a := fun e => hb (by rw [e]; exact ha)
  rw [wV_ne hne]
  exact h.2 b hb
theorem Same.wA {S : List Nat} {v v1 : xS} (h : Same S v v1) {a : Nat} {f : Nat → Int32} (ha : a ∈ S) : Same S v (wA v1 a f) := by
  refine ⟨h.1, fun b hb => ?_⟩
  have hne : b ≠ a := fun e => hb (by rw [e]; exact ha)
  rw [wA_row, if_neg hne]
  exact h.2 b hb
theorem wV_at (v : xS) (a k : Nat) (x : Int32) : (wV v a k x).1 a k = x := by rw [wV_self]; simp [upd]
theorem wV_other (v : xS) (a k j : Nat) (x : Int32) (h : j ≠ k) : (wV v a k x).1 a j = v.1 a j := by rw [wV_self]; simp [upd, h]
theorem cpy_in {f g : Nat → Int32} {sp dp n j : Nat} (h : dp ≤ j) (h2 : j < dp + n) : va_cpy f g sp dp n j = f (sp + (j - dp)) := if_pos ⟨h, h2⟩
theorem cpy_out {f g : Nat → Int32} {sp dp n j : Nat} (h : j < dp ∨ dp + n ≤ j) : va_cpy f g sp dp n j = g j := if_neg (by omega)
