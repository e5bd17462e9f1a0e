/-! what a LAND does, in whole numbers: both sides are tied to this -/
abbrev xD : Type := Nat × Nat × Nat × (Nat → Nat) × (Nat → Nat) × (Nat → Nat)
abbrev dn (D : xD) : Nat := D.1
abbrev db (D : xD) : Nat := D.2.1
abbrev dF (D : xD) : Nat := D.2.2.1
abbrev dK (D : xD) (i : Nat) : Nat := D.2.2.2.1 i
abbrev dP (D : xD) (i : Nat) : Nat := D.2.2.2.2.1 i
abbrev dU (D : xD) (i : Nat) : Nat := D.2.2.2.2.2 i
def DB (D : xD) : Prop := dn D ≤ 10 ∧ db D ≤ 3 ∧ dF D < 2 ^ dn D ∧ ∀ i, i < db D → dK D i < 6 ∧ dP D i < dn D ∧ 1 ≤ dU D i ∧ dU D i ≤ 9
def LC (v : xS) (D : xD) : Prop := v.1 30 0 = nI (dn D) ∧ v.1 30 1 = nI (db D) ∧ v.1 30 2 = nI (dF D) ∧ ∀ i, i < db D → v.1 34 i = nI (dK D i) ∧ v.1 32 i = nI (dP D i) ∧ v.1 33 i = nI (dU D i)
def LM (v : xS) (D : xD) : Prop := v.1 200 8 = nI (dn D) ∧ v.1 200 9 = nI (db D) ∧ v.1 200 15 = nI (dF D) ∧ ∀ i, i < db D → v.1 211 i = nI (dK D i) ∧ v.1 212 i = nI (dP D i) ∧ v.1 213 i = nI (dU D i)
theorem DB.F {D : xD} (h : DB D) : dF D < 1024 := Nat.lt_of_lt_of_le h.2.2.1 (by
  have h1 : 2 ^ dn D ≤ 2 ^ 10 := Nat.pow_le_pow_right (by decide) h.1
  exact h1)
theorem LC.keep {S : List Nat} {v v1 : xS} {D : xD} (h : LC v D) (hs : Same S v v1) (h1 : 30 ∉ S) (h2 : 32 ∉ S) (h3 : 33 ∉ S) (h4 : 34 ∉ S) : LC v1 D := by
  obtain ⟨a, b, c, e⟩ := h
  refine ⟨?_, ?_, ?_, fun i hi => ?_⟩
  · rw [hs.2 30 h1]; exact a
  · rw [hs.2 30 h1]; exact b
  · rw [hs.2 30 h1]; exact c
  · rw [hs.2 34 h4, hs.2 32 h2, hs.2 33 h3]; exact e i hi
theorem LM.keep {S : List Nat} {v v1 : xS} {D : xD} (h : LM v D) (hs : Same S v v1) (h1 : 200 ∉ S) (h2 : 211 ∉ S) (h3 : 212 ∉ S) (h4 : 213 ∉ S) : LM v1 D := by
  obtain ⟨a, b, c, e⟩ := h
  refine ⟨?_, ?_, ?_, fun i hi => ?_⟩
  · rw [hs.2 200 h1]; exact a
  · rw [hs.2 200 h1]; exact b
  · rw [hs.2 200 h1]; exact c
  · rw [hs.2 211 h2, hs.2 212 h3, hs.2 213 h4]; exact e i hi
/-- sums -/
def sm (g : Nat → Nat) : Nat → Nat
  | 0 => 0
  | n + 1 => sm g n + g n
theorem sm_le {g : Nat → Nat} : ∀ {n x : Nat}, x < n → g x ≤ sm g n
  | n + 1, x, h => by
    rcases Nat.lt_succ_iff_lt_or_eq.mp h with h | h
    · exact Nat.le_trans (sm_le h) (Nat.le_add_right _ _)
    · subst h; exact Nat.le_add_left _ _
theorem sm_congr {g g' : Nat → Nat} : ∀ {n : Nat}, (∀ x, x < n → g x = g' x) → sm g n = sm g' n
  | 0, _ => rfl
  | n + 1, h => by rw [sm, sm, sm_congr (fun x hx => h x (Nat.lt_succ_of_lt hx)), h n (Nat.lt_succ_self n)]
theorem sm_upd {g g' : Nat → Nat} {x : Nat} : ∀ {n : Nat}, x < n → (∀ j, j ≠ x → g' j = g j) → sm g' n + g x = sm g n + g' x
  | n + 1, h, ho => by
    rcases Nat.lt_succ_iff_lt_or_eq.mp h with h | h
    · have := sm_upd h ho
      rw [sm, sm, ho n (by omega)]
      omega
    · subst h
      have : sm g' x = sm g x := sm_congr (fun j hj => ho j (by omega))
      rw [sm, sm, this]
      omega
/-- inches a BAND moves of a SPOT that high -/
def sMost (k : Nat) : Nat := if k = 1 ∨ k = 4 then 2 else 1
def sLeast (k : Nat) : Nat := if k = 2 ∨ k = 5 then 2 else 1
def sInch (D : xD) (i x h : Nat) : Nat := if (dF D).testBit x = true ∨ (dK D i = 3 ∧ x < dP D i) ∨ h < sLeast (dK D i) then 0 else if h < sMost (dK D i) then h else sMost (dK D i)
def sReach (D : xD) (i : Nat) : Nat := if dK D i = 4 then 2 * dU D i else dU D i
theorem sInch_le (D : xD) (i x h : Nat) : sInch D i x h ≤ h ∧ sInch D i x h ≤ 2 := by
  unfold sInch sMost sLeast
  repeat' split
  all_goals omega
abbrev xGs : Type := (Nat → Nat) × Nat
def sSh (D : xD) (i : Nat) (x y : Int) (s : xGs) : xGs :=
  if 0 ≤ x ∧ x < dn D ∧ 0 ≤ y ∧ y < dn D then (fun j => if j = y.toNat then s.1 j + sInch D i x.toNat (s.1 x.toNat) else if j = x.toNat then s.1 j - sInch D i x.toNat (s.1 x.toNat) else s.1 j, s.2 + sInch D i x.toNat (s.1 x.toNat)) else s
theorem sSh_sm (D : xD) (i : Nat) (x y : Int) (s : xGs) (hxy : x ≠ y) : sm (sSh D i x y s).1 (dn D) = sm s.1 (dn D) := by
  unfold sSh
  split
  · rename_i h
    obtain ⟨h1, h2, h3, h4⟩ := h
    have hc := (sInch_le D i x.toNat (s.1 x.toNat)).1
    generalize sInch D i x.toNat (s.1 x.toNat) = c at hc ⊢
    have hx : x.toNat < dn D := by omega
    have hy : y.toNat < dn D := by omega
    have hne : x.toNat ≠ y.toNat := by omega
    have e1 := sm_upd (g := s.1) (g' := fun j => if j = x.toNat then s.1 j - c else s.1 j) hx (fun j hj => by simp [hj])
    have e2 := sm_upd (g := fun j => if j = x.toNat then s.1 j - c else s.1 j) (g' := fun j => if j = y.toNat then s.1 j + c else if j = x.toNat then s.1 j - c else s.1 j) hy (fun j hj => by simp [hj])
    simp only [if_true, hne.symm, if_false] at e1 e2
    dsimp only
    omega
  · rfl
theorem sSh_tot (D : xD) (i : Nat) (x y : Int) (s : xGs) : s.2 ≤ (sSh D i x y s).2 ∧ (sSh D i x y s).2 ≤ s.2 + 2 := by
  unfold sSh
  split
  · have := (sInch_le D i x.toNat (s.1 x.toNat)).2
    dsimp only
    omega
  · omega
def sPair (D : xD) (i : Nat) (w : Int) (d : Nat) (s : xGs) : xGs := sSh D i (dP D i + d) (dP D i + d - w) (sSh D i (dP D i - d) (dP D i - d + w) s)
def sUp (D : xD) (i : Nat) : Nat → xGs → xGs
  | 0, s => s
  | m + 1, s => sPair D i 1 (m + 1) (sUp D i m s)
def sDn (D : xD) (i : Nat) : Nat → xGs → xGs
  | 0, s => s
  | m + 1, s => sDn D i m (sPair D i (-1) (m + 1) s)
def sDist (D : xD) (i : Nat) : Nat := if dn D - 1 < sReach D i then dn D - 1 else sReach D i
def sTune (D : xD) (i t : Nat) (g : Nat → Nat) : xGs :=
  if t = 0 then (g, 0) else if (t = 1) ↔ (¬ dK D i = 5) then sUp D i (sDist D i) (g, 0) else sDn D i (sDist D i) (g, 0)
theorem sPair_sm (D : xD) (i : Nat) (w : Int) (d : Nat) (s : xGs) (hw : w = 1 ∨ w = -1) : sm (sPair D i w d s).1 (dn D) = sm s.1 (dn D) := by
  unfold sPair
  rw [sSh_sm _ _ _ _ _ (by omega), sSh_sm _ _ _ _ _ (by omega)]
theorem sPair_tot (D : xD) (i : Nat) (w : Int) (d : Nat) (s : xGs) : s.2 ≤ (sPair D i w d s).2 ∧ (sPair D i w d s).2 ≤ s.2 + 4 := by
  unfold sPair
  have h1 := sSh_tot D i (dP D i + d) (dP D i + d - w) (sSh D i (dP D i - d) (dP D i - d + w) s)
  have h2 := sSh_tot D i (dP D i - d) (dP D i - d + w) s
  omega
theorem sUp_sm (D : xD) (i : Nat) : ∀ (m : Nat) (s : xGs), sm (sUp D i m s).1 (dn D) = sm s.1 (dn D)
  | 0, _ => rfl
  | m + 1, s => by rw [sUp, sPair_sm _ _ _ _ _ (Or.inl rfl), sUp_sm D i m s]
theorem sDn_sm (D : xD) (i : Nat) : ∀ (m : Nat) (s : xGs), sm (sDn D i m s).1 (dn D) = sm s.1 (dn D)
  | 0, _ => rfl
  | m + 1, s => by rw [sDn, sDn_sm D i m _, sPair_sm _ _ _ _ _ (Or.inr rfl)]
theorem sUp_tot (D : xD) (i : Nat) : ∀ (m : Nat) (s : xGs), s.2 ≤ (sUp D i m s).2 ∧ (sUp D i m s).2 ≤ s.2 + 4 * m
  | 0, _ => by simp [sUp]
  | m + 1, s => by
    have h1 := sUp_tot D i m s
    have h2 := sPair_tot D i 1 (m + 1) (sUp D i m s)
    rw [sUp]
    omega
theorem sDn_tot (D : xD) (i : Nat) : ∀ (m : Nat) (s : xGs), s.2 ≤ (sDn D i m s).2 ∧ (sDn D i m s).2 ≤ s.2 + 4 * m
  | 0, _ => by simp [sDn]
  | m + 1, s => by
    have h1 := sDn_tot D i m (sPair D i (-1) (m + 1) s)
    have h2 := sPair_tot D i (-1) (m + 1) s
    rw [sDn]
    omega
theorem sTune_sm (D : xD) (i t : Nat) (g : Nat → Nat) : sm (sTune D i t g).1 (dn D) = sm g (dn D) := by
  unfold sTune
  split
  · rfl
  · split
    · rw [sUp_sm]
    · rw [sDn_sm]
theorem sTune_tot (D : xD) (hD : DB D) (i t : Nat) (g : Nat → Nat) : (sTune D i t g).2 ≤ 40 := by
  have hd : sDist D i ≤ 9 ∨ dn D = 0 := by
    unfold sDist
    have := hD.1
    split <;> omega
  have hd2 : sDist D i ≤ 9 := by
    rcases hd with h | h
    · exact h
    · unfold sDist; rw [h]; split <;> omega
  unfold sTune
  split
  · simp
  · split
    · have := sUp_tot D i (sDist D i) (g, 0); simp only at this; omega
    · have := sDn_tot D i (sDist D i) (g, 0); simp only at this; omega
/-- an EVENING: the ground behind the first m BANDS, inches together -/
def tn (p i : Nat) : Nat := p / 3 ^ i % 3
def sEvG (D : xD) (p : Nat) : Nat → (Nat → Nat) → (Nat → Nat)
  | 0, g => g
  | m + 1, g => (sTune D m (tn p m) (sEvG D p m g)).1
def sEvT (D : xD) (p : Nat) : Nat → (Nat → Nat) → Nat
  | 0, _ => 0
  | m + 1, g => sEvT D p m g + (sTune D m (tn p m) (sEvG D p m g)).2
abbrev eG (D : xD) (p : Nat) (g : Nat → Nat) : Nat → Nat := sEvG D p (db D) g
abbrev eT (D : xD) (p : Nat) (g : Nat → Nat) : Nat := sEvT D p (db D) g
theorem sEvG_sm (D : xD) (p : Nat) : ∀ (m : Nat) (g : Nat → Nat), sm (sEvG D p m g) (dn D) = sm g (dn D)
  | 0, _ => rfl
  | m + 1, g => by rw [sEvG, sTune_sm, sEvG_sm D p m g]
/-- BREATH of a PROGRAM -/
def sBr (D : xD) (p : Nat) : Nat → Nat
  | 0 => 0
  | m + 1 => sBr D p m + if tn p m = 0 then 0 else dU D m
abbrev eB (D : xD) (p : Nat) : Nat := sBr D p (db D)
theorem sBr_le (D : xD) (hD : DB D) (p : Nat) : ∀ m, m ≤ db D → sBr D p m ≤ 9 * m
  | 0, _ => by simp [sBr]
  | m + 1, h => by
    have := sBr_le D hD p m (by omega)
    have h2 := (hD.2.2.2 m (by omega)).2.2.2
    rw [sBr]
    split <;> omega
/-- the ground in a row of cells -/
def Gd (v : xS) (a : Nat) (D : xD) (g : Nat → Nat) : Prop := ∀ x, x < dn D → v.1 a x = nI (g x)
theorem tn0 (p : Nat) : tn p 0 = p % 3 := by simp [tn]
theorem tn_div (p i : Nat) : tn (p / 3) i = tn p (i + 1) := by
  unfold tn
  rw [Nat.div_div_eq_div_mul, Nat.pow_succ, Nat.mul_comm]
theorem tn_lt (p i : Nat) : tn p i < 3 := Nat.mod_lt _ (by decide)
