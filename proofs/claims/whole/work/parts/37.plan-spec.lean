/-! what to play: all programs in order, and what may be left out -/
def sIt {σ : Type} (f : Nat → σ → σ) : Nat → σ → σ
  | 0, s => s
  | c + 1, s => f c (sIt f c s)
def sPl (D : xD) (Gl : (Nat → Nat) → Bool) : Nat → (Nat → Nat) → Nat → List Nat → Nat × List Nat → Nat × List Nat
  | 0, g, br, pre, st => if Gl g = true ∧ br < st.1 then (br, pre) else st
  | m + 1, g, br, pre, st => sIt (fun p s => sPl D Gl m (eG D p g) (br + eB D p) (pre ++ [p]) s) (3 ^ db D) st
/-- the ground and the breath behind a list of programs -/
def sGo (D : xD) : List Nat → (Nat → Nat) → (Nat → Nat)
  | [], g => g
  | p :: l, g => sGo D l (eG D p g)
def sGoB (D : xD) : List Nat → Nat
  | [] => 0
  | p :: l => eB D p + sGoB D l
theorem sIt_inv {σ : Type} {f : Nat → σ → σ} {P : Nat → σ → Prop} {n : Nat} {s : σ} (h0 : P 0 s) (hs : ∀ c s, c < n → P c s → P (c + 1) (f c s)) : ∀ c, c ≤ n → P c (sIt f c s)
  | 0, _ => h0
  | c + 1, h => hs c _ (by omega) (sIt_inv h0 hs c (by omega))
theorem sIt_congr {σ : Type} {f f' : Nat → σ → σ} {n : Nat} (h : ∀ c s, c < n → f c s = f' c s) : ∀ c s, c ≤ n → sIt f c s = sIt f' c s
  | 0, _, _ => rfl
  | c + 1, s, hc => by rw [sIt, sIt, sIt_congr h c s (by omega), h c _ (by omega)]
section PLS
variable {D : xD} {Gl : (Nat → Nat) → Bool}
/-- the best only gets better; it is no worse than any list that reaches the goal -/
theorem sPl_le : ∀ (m : Nat) (g : Nat → Nat) (br : Nat) (pre : List Nat) (st : Nat × List Nat), (sPl D Gl m g br pre st).1 ≤ st.1
  | 0, g, br, pre, st => by
    unfold sPl
    split
    · rename_i h; exact Nat.le_of_lt h.2
    · exact Nat.le_refl _
  | m + 1, g, br, pre, st => by
    rw [sPl]
    exact sIt_inv (P := fun _ s => s.1 ≤ st.1) (n := 3 ^ db D) (Nat.le_refl _) (fun c s _ hs => Nat.le_trans (sPl_le m _ _ _ s) hs) _ (Nat.le_refl _)
theorem sPl_all : ∀ (m : Nat) (g : Nat → Nat) (br : Nat) (pre : List Nat) (st : Nat × List Nat) (l : List Nat), l.length = m → (∀ p, p ∈ l → p < 3 ^ db D) → Gl (sGo D l g) = true → (sPl D Gl m g br pre st).1 ≤ br + sGoB D l
  | 0, g, br, pre, st, l, hl, _, hg => by
    have : l = [] := List.length_eq_zero_iff.mp hl
    subst this
    unfold sPl
    simp only [sGo, sGoB] at hg ⊢
    split
    · omega
    · rename_i h
      have : ¬ br < st.1 := fun q => h ⟨hg, q⟩
      omega
  | m + 1, g, br, pre, st, l, hl, hp, hg => by
    match l, hl with
    | q :: l, hl =>
      have hq : q < 3 ^ db D := hp q List.mem_cons_self
      rw [sPl]
      have := sIt_inv (f := fun p s => sPl D Gl m (eG D p g) (br + eB D p) (pre ++ [p]) s) (P := fun c s => q < c → s.1 ≤ br + sGoB D (q :: l)) (n := 3 ^ db D) (s := st) (fun h => absurd h (Nat.not_lt_zero _)) (fun c s hc hs hqc => by
        by_cases hcq : q < c
        · exact Nat.le_trans (sPl_le m _ _ _ s) (hs hcq)
        · have hcq2 : c = q := by omega
          subst hcq2
          have := sPl_all m (eG D c g) (br + eB D c) (pre ++ [c]) s l (by simpa using hl) (fun p hpl => hp p (List.mem_cons_of_mem _ hpl)) hg
          rw [sGoB]
          omega) (3 ^ db D) (Nat.le_refl _)
      exact this hq
/-- nothing changes where no list reaches the goal below the best -/
theorem sPl_skip : ∀ (m : Nat) (g : Nat → Nat) (br : Nat) (pre : List Nat) (st : Nat × List Nat), (∀ l : List Nat, l.length = m → (∀ p, p ∈ l → p < 3 ^ db D) → Gl (sGo D l g) = true → st.1 ≤ br + sGoB D l) → sPl D Gl m g br pre st = st
  | 0, g, br, pre, st, h => by
    unfold sPl
    rw [if_neg]
    intro q
    have := h [] rfl (fun p hp => by simp at hp) q.1
    simp only [sGoB] at this
    omega
  | m + 1, g, br, pre, st, h => by
    rw [sPl]
    have := sIt_inv (f := fun p s => sPl D Gl m (eG D p g) (br + eB D p) (pre ++ [p]) s) (P := fun _ s => s = st) (n := 3 ^ db D) (s := st) rfl (fun c s hc hs => by
      subst hs
      refine sPl_skip m _ _ _ s (fun l hl hp hg => ?_)
      have := h (c :: l) (by simp [hl]) (fun p hpl => by
        rcases List.mem_cons.mp hpl with e | e
        · rw [e]; exact hc
        · exact hp p e) hg
      rw [sGoB] at this
      omega) (3 ^ db D) (Nat.le_refl _)
    exact this
/-- a BAND that plays and moves nothing -/
theorem sSh_zero {i : Nat} {x y : Int} {s : xGs} (hxy : x ≠ y) (h : (sSh D i x y s).2 = s.2) : sSh D i x y s = s := by
  unfold sSh at h ⊢
  split at h
  · rename_i hc
    rw [if_pos hc]
    dsimp only at h
    have h0 : sInch D i x.toNat (s.1 x.toNat) = 0 := by omega
    rw [h0]
    refine Prod.ext (funext fun j => ?_) (by simp)
    dsimp only
    split
    · rfl
    · split
      · rfl
      · rfl
  · rename_i hc
    rw [if_neg hc]
theorem sPair_zero {i : Nat} {w : Int} {d : Nat} {s : xGs} (hw : w = 1 ∨ w = -1) (h : (sPair D i w d s).2 = s.2) : sPair D i w d s = s := by
  unfold sPair at h ⊢
  have h1 := sSh_tot D i (dP D i + d) (dP D i + d - w) (sSh D i (dP D i - d) (dP D i - d + w) s)
  have h2 := sSh_tot D i (dP D i - d) (dP D i - d + w) s
  have e1 : sSh D i (dP D i - d) (dP D i - d + w) s = s := sSh_zero (by omega) (by omega)
  rw [e1] at h h1 ⊢
  exact sSh_zero (by omega) (by omega)
theorem sUp_zero {i : Nat} : ∀ (m : Nat) (s : xGs), (sUp D i m s).2 = s.2 → sUp D i m s = s
  | 0, _, _ => rfl
  | m + 1, s, h => by
    rw [sUp] at h ⊢
    have h1 := sPair_tot D i 1 (m + 1) (sUp D i m s)
    have h2 := sUp_tot D i m s
    have e := sUp_zero (i := i) m s (by omega)
    rw [e] at h ⊢
    exact sPair_zero (Or.inl rfl) h
theorem sDn_zero {i : Nat} : ∀ (m : Nat) (s : xGs), (sDn D i m s).2 = s.2 → sDn D i m s = s
  | 0, _, _ => rfl
  | m + 1, s, h => by
    rw [sDn] at h ⊢
    have h1 := sPair_tot D i (-1) (m + 1) s
    have h2 := sDn_tot D i m (sPair D i (-1) (m + 1) s)
    have e := sPair_zero (D := D) (i := i) (w := -1) (d := m + 1) (s := s) (Or.inr rfl) (by omega)
    rw [e] at h ⊢
    exact sDn_zero m s h
theorem sTune_zero {i t : Nat} {g : Nat → Nat} (h : (sTune D i t g).2 = 0) : (sTune D i t g).1 = g := by
  unfold sTune at h ⊢
  split
  · rfl
  · rename_i h0
    rw [if_neg h0] at h
    split
    · rename_i h1
      rw [if_pos h1] at h
      rw [sUp_zero _ _ h]
    · rename_i h1
      rw [if_neg h1] at h
      rw [sDn_zero _ _ h]
/-- the same program with one BAND silent -/
theorem silent0 : (List.range 27).all (fun p => (List.range 3).all fun i => (tn p i == 0) || (decide (p - tn p i * 3 ^ i < p) && (tn (p - tn p i * 3 ^ i) i == 0) && (List.range 3).all fun k => (k == i) || (tn (p - tn p i * 3 ^ i) k == tn p k))) = true := by decide +kernel
theorem silent (p : Nat) (hp : p < 27) (i : Nat) (hi : i < 3) (h : tn p i ≠ 0) : ∃ q, q < p ∧ tn q i = 0 ∧ ∀ k, k < 3 → k ≠ i → tn q k = tn p k := by
  have h1 := List.all_eq_true.mp (List.all_eq_true.mp silent0 p (List.mem_range.mpr hp)) i (List.mem_range.mpr hi)
  simp only [Bool.or_eq_true, Bool.and_eq_true, beq_iff_eq, decide_eq_true_eq] at h1
  rcases h1 with h1 | ⟨⟨h1, h2⟩, h3⟩
  · exact absurd h1 h
  · refine ⟨_, h1, h2, fun k hk hki => ?_⟩
    have h4 := List.all_eq_true.mp h3 k (List.mem_range.mpr hk)
    simp only [Bool.or_eq_true, beq_iff_eq] at h4
    exact h4.resolve_left hki
/-- some BAND plays and moves nothing -/
def sIdle (D : xD) (p : Nat) (g : Nat → Nat) : Nat → Bool
  | 0 => false
  | m + 1 => sIdle D p g m || (decide (tn p m ≠ 0) && decide ((sTune D m (tn p m) (sEvG D p m g)).2 = 0))
theorem sIdle_ex {p : Nat} {g : Nat → Nat} : ∀ m, sIdle D p g m = true → ∃ i, i < m ∧ tn p i ≠ 0 ∧ (sTune D i (tn p i) (sEvG D p i g)).2 = 0
  | 0, h => by simp [sIdle] at h
  | m + 1, h => by
    rw [sIdle, Bool.or_eq_true] at h
    rcases h with h | h
    · obtain ⟨i, h1, h2⟩ := sIdle_ex m h
      exact ⟨i, by omega, h2⟩
    · simp only [Bool.and_eq_true, decide_eq_true_eq] at h
      exact ⟨m, by omega, h.1, h.2⟩
theorem sTune0 (i : Nat) (g : Nat → Nat) : sTune D i 0 g = (g, 0) := by unfold sTune; rw [if_pos rfl]
theorem sEvG_silent {p q i : Nat} {g : Nat → Nat} (hi : i < 3) (h0 : tn q i = 0) (hk : ∀ k, k < 3 → k ≠ i → tn q k = tn p k) (hz : (sTune D i (tn p i) (sEvG D p i g)).2 = 0) : ∀ m, m ≤ 3 → sEvG D q m g = sEvG D p m g
  | 0, _ => rfl
  | m + 1, hm => by
    have ih := sEvG_silent hi h0 hk hz m (by omega)
    rw [sEvG, sEvG, ih]
    by_cases hmi : m = i
    · subst hmi
      rw [h0, sTune0, sTune_zero hz]
    · rw [hk m (by omega) hmi]
theorem sBr_silent (hD : DB D) {p q i : Nat} (h0 : tn q i = 0) (hp : tn p i ≠ 0) (hk : ∀ k, k < 3 → k ≠ i → tn q k = tn p k) : ∀ m, m ≤ db D → (if i < m then sBr D q m < sBr D p m else sBr D q m = sBr D p m)
  | 0, _ => by simp [sBr]
  | m + 1, hm => by
    have hb := hD.2.1
    have ih := sBr_silent hD h0 hp hk m (by omega)
    rw [sBr, sBr]
    by_cases hmi : m = i
    · subst hmi
      rw [if_neg (Nat.lt_irrefl _)] at ih
      have := (hD.2.2.2 m (by omega)).2.2.1
      rw [if_pos (by omega), h0, if_pos rfl, if_neg hp, ih]
      omega
    · rw [hk m (by omega) hmi]
      by_cases him : i < m
      · rw [if_pos him] at ih
        rw [if_pos (by omega)]
        omega
      · rw [if_neg him] at ih
        rw [if_neg (by omega), ih]
theorem idle_other (hD : DB D) {p : Nat} {g : Nat → Nat} (hp : p < 3 ^ db D) (h : sIdle D p g (db D) = true) : ∃ q, q < p ∧ eG D q g = eG D p g ∧ eB D q < eB D p := by
  have hb := hD.2.1
  have hp27 := pow3 hb
  obtain ⟨i, h1, h2, h3⟩ := sIdle_ex (db D) h
  obtain ⟨q, q1, q2, q3⟩ := silent p (by omega) i (by omega) h2
  refine ⟨q, q1, sEvG_silent (by omega) q2 q3 h3 (db D) hb, ?_⟩
  have := sBr_silent hD q2 h2 q3 (db D) (Nat.le_refl _)
  rw [if_pos h1] at this
  exact this
/-- the most that a BAND takes of a SPOT -/
def tk (D : xD) (i : Nat) (y : Int) : Nat := if 0 ≤ y ∧ y < dn D ∧ sHrd D i y.toNat = true then sInch D i y.toNat 2 else 0
def sTk (D : xD) (x : Int) : Nat → Nat
  | 0 => 0
  | m + 1 => sTk D x m + tk D m x
def sGn (D : xD) (x : Nat) : Nat → Nat
  | 0 => 0
  | m + 1 => sGn D x m + if x = dP D m then tk D m ((x : Int) - 1) + tk D m ((x : Int) + 1) else if tk D m ((x : Int) - 1) < tk D m ((x : Int) + 1) then tk D m ((x : Int) + 1) else tk D m ((x : Int) - 1)
theorem sInch_2 (i x h : Nat) : sInch D i x h ≤ sInch D i x 2 := by
  have hl : sLeast (dK D i) ≤ 2 := by unfold sLeast; split <;> omega
  have hm : sMost (dK D i) ≤ 2 := by unfold sMost; split <;> omega
  unfold sInch
  by_cases h1 : (dF D).testBit x = true ∨ (dK D i = 3 ∧ x < dP D i) ∨ h < sLeast (dK D i)
  · rw [if_pos h1]; exact Nat.zero_le _
  · have h2 : ¬ ((dF D).testBit x = true ∨ (dK D i = 3 ∧ x < dP D i) ∨ 2 < sLeast (dK D i)) := by
      intro q
      rcases q with q | q | q
      · exact h1 (Or.inl q)
      · exact h1 (Or.inr (Or.inl q))
      · omega
    rw [if_neg h1, if_neg h2]
    split <;> split <;> omega
theorem sInch_tk {i : Nat} {y : Int} (h0 : 0 ≤ y) (h1 : y < dn D) (hd : y ≠ dP D i) (hr : (if y ≤ dP D i then (dP D i : Int) - y else y - dP D i) ≤ sReach D i) (h : Nat) : sInch D i y.toNat h ≤ tk D i y := by
  unfold tk
  rw [if_pos]
  · exact sInch_2 i _ h
  · refine ⟨h0, h1, ?_⟩
    unfold sHrd
    refine decide_eq_true ⟨by omega, ?_⟩
    split at hr <;> split <;> omega
theorem sSh_loss (i : Nat) (x y : Int) (s : xGs) (u : Nat) : s.1 u ≤ (sSh D i x y s).1 u + (if (u : Int) = x ∧ x < dn D then sInch D i u 2 else 0) := by
  unfold sSh
  split
  · rename_i h
    dsimp only
    have h2 := sInch_2 (D := D) i x.toNat (s.1 x.toNat)
    by_cases hu : u = y.toNat
    · rw [if_pos hu]; omega
    · rw [if_neg hu]
      by_cases hx : u = x.toNat
      · rw [if_pos hx, if_pos (by omega), hx]
        omega
      · rw [if_neg hx]; omega
  · omega
theorem sSh_gain (i : Nat) (x y : Int) (s : xGs) (u : Nat) : (sSh D i x y s).1 u ≤ s.1 u + (if (u : Int) = y ∧ 0 ≤ x ∧ x < dn D then sInch D i x.toNat 2 else 0) := by
  unfold sSh
  split
  · rename_i h
    dsimp only
    have h2 := sInch_2 (D := D) i x.toNat (s.1 x.toNat)
    by_cases hu : u = y.toNat
    · rw [if_pos hu, if_pos (by omega)]; omega
    · rw [if_neg hu]
      split <;> omega
  · omega
theorem sDist_r (i : Nat) : sDist D i ≤ sReach D i := by unfold sDist; split <;> omega
/-- how far a SPOT is -/
def sFar (D : xD) (i u : Nat) : Nat := if u ≤ dP D i then dP D i - u else u - dP D i
theorem sPair_loss (i : Nat) (w : Int) (d : Nat) (hd : 1 ≤ d) (s : xGs) (u : Nat) (hu : u < dn D) : s.1 u ≤ (sPair D i w d s).1 u + (if sFar D i u = d then sInch D i u 2 else 0) := by
  unfold sPair
  have h1 := sSh_loss (D := D) i (dP D i - d) (dP D i - d + w) s u
  have h2 := sSh_loss (D := D) i (dP D i + d) (dP D i + d - w) (sSh D i (dP D i - d) (dP D i - d + w) s) u
  unfold sFar
  split at h1 <;> split at h2 <;> split <;> split <;> omega
theorem sUp_loss (i : Nat) (u : Nat) (hu : u < dn D) : ∀ (m : Nat) (s : xGs), s.1 u ≤ (sUp D i m s).1 u + (if 1 ≤ sFar D i u ∧ sFar D i u ≤ m then sInch D i u 2 else 0)
  | 0, s => by rw [sUp]; omega
  | m + 1, s => by
    have h1 := sUp_loss i u hu m s
    have h2 := sPair_loss (D := D) i 1 (m + 1) (by omega) (sUp D i m s) u hu
    rw [sUp]
    split at h1 <;> split at h2 <;> split <;> omega
theorem sDn_loss (i : Nat) (u : Nat) (hu : u < dn D) : ∀ (m : Nat) (s : xGs), s.1 u ≤ (sDn D i m s).1 u + (if 1 ≤ sFar D i u ∧ sFar D i u ≤ m then sInch D i u 2 else 0)
  | 0, s => by rw [sDn]; omega
  | m + 1, s => by
    have h1 := sDn_loss i u hu m (sPair D i (-1) (m + 1) s)
    have h2 := sPair_loss (D := D) i (-1) (m + 1) (by omega) s u hu
    rw [sDn]
    split at h1 <;> split at h2 <;> split <;> omega
theorem sTune_loss (i t : Nat) (g : Nat → Nat) (u : Nat) (hu : u < dn D) : g u ≤ (sTune D i t g).1 u + tk D i u := by
  have key : (if 1 ≤ sFar D i u ∧ sFar D i u ≤ sDist D i then sInch D i u 2 else 0) ≤ tk D i u := by
    split
    · rename_i h
      have hr := sDist_r (D := D) i
      have := sInch_tk (D := D) (i := i) (y := (u : Int)) (by omega) (by omega) (by unfold sFar at h; split at h <;> omega) (by unfold sFar at h; split at h <;> split <;> omega) 2
      simpa using this
    · omega
  unfold sTune
  split
  · dsimp only; omega
  · split
    · have := sUp_loss (D := D) i u hu (sDist D i) (g, 0); dsimp only at this; omega
    · have := sDn_loss (D := D) i u hu (sDist D i) (g, 0); dsimp only at this; omega
theorem sEvG_loss (p : Nat) (g : Nat → Nat) (u : Nat) (hu : u < dn D) : ∀ m, g u ≤ sEvG D p m g u + sTk D u m
  | 0 => by simp [sEvG, sTk]
  | m + 1 => by
    have h1 := sEvG_loss p g u hu m
    have h2 := sTune_loss (D := D) m (tn p m) (sEvG D p m g) u hu
    rw [sEvG, sTk]
    omega
theorem sGo_loss (u : Nat) (hu : u < dn D) : ∀ (l : List Nat) (g : Nat → Nat), g u ≤ sGo D l g u + sTk D u (db D) * l.length
  | [], g => by simp [sGo]
  | p :: l, g => by
    have h1 := sGo_loss u hu l (eG D p g)
    have h2 : g u ≤ eG D p g u + sTk D u (db D) := sEvG_loss (D := D) p g u hu (db D)
    rw [sGo, List.length_cons, Nat.mul_succ]
    omega
/-- gains -/
theorem sPair_gain (i : Nat) (w : Int) (d : Nat) (s : xGs) (u : Nat) : (sPair D i w d s).1 u ≤ s.1 u + (if (u : Int) = dP D i - d + w ∧ 0 ≤ (dP D i : Int) - d ∧ (dP D i : Int) - d < dn D then sInch D i ((dP D i : Int) - d).toNat 2 else 0) + (if (u : Int) = dP D i + d - w ∧ (dP D i : Int) + d < dn D then sInch D i (dP D i + d) 2 else 0) := by
  unfold sPair
  have h1 := sSh_gain (D := D) i (dP D i - d) (dP D i - d + w) s u
  have h2 := sSh_gain (D := D) i (dP D i + d) (dP D i + d - w) (sSh D i (dP D i - d) (dP D i - d + w) s) u
  have e : ((dP D i : Int) + d).toNat = dP D i + d := by omega
  rw [e] at h2
  split at h1 <;> split at h2 <;> split <;> split <;> omega
theorem sUp_gain (i : Nat) (u : Nat) : ∀ (m : Nat) (s : xGs), m ≤ sReach D i → (sUp D i m s).1 u ≤ s.1 u + (if u ≤ dP D i ∧ dP D i - u + 1 ≤ m then tk D i ((u : Int) - 1) else 0) + (if dP D i ≤ u ∧ u - dP D i + 1 ≤ m then tk D i ((u : Int) + 1) else 0)
  | 0, s, _ => by rw [sUp]; omega
  | m + 1, s, hm => by
    have h1 := sUp_gain i u m s (by omega)
    have h2 := sPair_gain (D := D) i 1 (m + 1) (sUp D i m s) u
    rw [sUp]
    have a1 : (if (u : Int) = dP D i - (m + 1 : Nat) + 1 ∧ 0 ≤ (dP D i : Int) - (m + 1 : Nat) ∧ (dP D i : Int) - (m + 1 : Nat) < dn D then sInch D i ((dP D i : Int) - (m + 1 : Nat)).toNat 2 else 0) ≤ (if u ≤ dP D i ∧ dP D i - u + 1 = m + 1 then tk D i ((u : Int) - 1) else 0) := by
      split
      · rename_i h
        have e : (dP D i : Int) - (m + 1 : Nat) = (u : Int) - 1 := by omega
        rw [if_pos (by omega), e]
        exact sInch_tk (by omega) (by omega) (by omega) (by split <;> omega) 2
      · omega
    have a2 : (if (u : Int) = dP D i + (m + 1 : Nat) - 1 ∧ (dP D i : Int) + (m + 1 : Nat) < dn D then sInch D i (dP D i + (m + 1)) 2 else 0) ≤ (if dP D i ≤ u ∧ u - dP D i + 1 = m + 1 then tk D i ((u : Int) + 1) else 0) := by
      split
      · rename_i h
        have e : dP D i + (m + 1) = ((u : Int) + 1).toNat := by omega
        rw [if_pos (by omega), e]
        exact sInch_tk (by omega) (by omega) (by omega) (by split <;> omega) 2
      · omega
    have h3 := Nat.le_trans h2 (Nat.add_le_add (Nat.add_le_add (Nat.le_refl _) a1) a2)
    clear a1 a2 h2
    generalize tk D i ((u : Int) - 1) = c1 at h1 h3 ⊢
    generalize tk D i ((u : Int) + 1) = c2 at h1 h3 ⊢
    split at h1 <;> split at h1 <;> split at h3 <;> split at h3 <;> split <;> split <;> omega
theorem sDn_gain (i : Nat) (u : Nat) : ∀ (m : Nat) (s : xGs), m ≤ sReach D i → (sDn D i m s).1 u ≤ s.1 u + (if u < dP D i ∧ dP D i - u - 1 ≤ m ∧ 1 ≤ dP D i - u - 1 then tk D i ((u : Int) + 1) else 0) + (if dP D i < u ∧ u - dP D i - 1 ≤ m ∧ 1 ≤ u - dP D i - 1 then tk D i ((u : Int) - 1) else 0)
  | 0, s, _ => by rw [sDn]; omega
  | m + 1, s, hm => by
    have h1 := sDn_gain i u m (sPair D i (-1) (m + 1) s) (by omega)
    have h2 := sPair_gain (D := D) i (-1) (m + 1) s u
    rw [sDn]
    have a1 : (if (u : Int) = dP D i - (m + 1 : Nat) + (-1) ∧ 0 ≤ (dP D i : Int) - (m + 1 : Nat) ∧ (dP D i : Int) - (m + 1 : Nat) < dn D then sInch D i ((dP D i : Int) - (m + 1 : Nat)).toNat 2 else 0) ≤ (if u < dP D i ∧ dP D i - u - 1 = m + 1 then tk D i ((u : Int) + 1) else 0) := by
      split
      · rename_i h
        have e : (dP D i : Int) - (m + 1 : Nat) = (u : Int) + 1 := by omega
        rw [if_pos (by omega), e]
        exact sInch_tk (by omega) (by omega) (by omega) (by split <;> omega) 2
      · omega
    have a2 : (if (u : Int) = dP D i + (m + 1 : Nat) - (-1) ∧ (dP D i : Int) + (m + 1 : Nat) < dn D then sInch D i (dP D i + (m + 1)) 2 else 0) ≤ (if dP D i < u ∧ u - dP D i - 1 = m + 1 then tk D i ((u : Int) - 1) else 0) := by
      split
      · rename_i h
        have e : dP D i + (m + 1) = ((u : Int) - 1).toNat := by omega
        rw [if_pos (by omega), e]
        exact sInch_tk (by omega) (by omega) (by omega) (by split <;> omega) 2
      · omega
    have h3 := Nat.le_trans h2 (Nat.add_le_add (Nat.add_le_add (Nat.le_refl _) a1) a2)
    clear a1 a2 h2
    generalize tk D i ((u : Int) - 1) = c1 at h1 h3 ⊢
    generalize tk D i ((u : Int) + 1) = c2 at h1 h3 ⊢
    split at h1 <;> split at h1 <;> split at h3 <;> split at h3 <;> split <;> split <;> omega
theorem sTune_gain (i t : Nat) (g : Nat → Nat) (u : Nat) : (sTune D i t g).1 u ≤ g u + (if u = dP D i then tk D i ((u : Int) - 1) + tk D i ((u : Int) + 1) else if tk D i ((u : Int) - 1) < tk D i ((u : Int) + 1) then tk D i ((u : Int) + 1) else tk D i ((u : Int) - 1)) := by
  have hr := sDist_r (D := D) i
  unfold sTune
  split
  · dsimp only; omega
  · split
    · have := sUp_gain (D := D) i u (sDist D i) (g, 0) hr
      dsimp only at this
      split at this <;> split at this <;> split <;> first | omega | (split <;> omega)
    · have := sDn_gain (D := D) i u (sDist D i) (g, 0) hr
      dsimp only at this
      split at this <;> split at this <;> split <;> first | omega | (split <;> omega)
theorem sEvG_gain (p : Nat) (g : Nat → Nat) (u : Nat) : ∀ m, sEvG D p m g u ≤ g u + sGn D u m
  | 0 => by simp [sEvG, sGn]
  | m + 1 => by
    have h1 := sEvG_gain p g u m
    have h2 := sTune_gain (D := D) m (tn p m) (sEvG D p m g) u
    rw [sEvG, sGn]
    omega
theorem sGo_gain (u : Nat) : ∀ (l : List Nat) (g : Nat → Nat), sGo D l g u ≤ g u + sGn D u (db D) * l.length
  | [], g => by simp [sGo]
  | p :: l, g => by
    have h1 := sGo_gain u l (eG D p g)
    have h2 : eG D p g u ≤ g u + sGn D u (db D) := sEvG_gain (D := D) p g u (db D)
    rw [sGo, List.length_cons, Nat.mul_succ]
    omega
end PLS
