/-! how a TEXT is read: the pure part, the class's part -/
def cFig (c : Nat → Int32) (m i : Nat) : Bool := decide (i < m ∧ 48 ≤ (c i).toInt ∧ (c i).toInt ≤ 57)
def cVal (c : Nat → Int32) (i : Nat) : Nat := ((c i).toInt - 48).toNat
def sBl (c : Nat → Int32) (m : Nat) : Nat → Nat → Nat
  | 0, i => i
  | f + 1, i => if i < m ∧ c i = 32 then sBl c m f (i + 1) else i
def sHt (c : Nat → Int32) (m : Nat) : Nat → Nat → Nat
  | 0, _ => 0
  | f + 1, i => if cFig c m i = true then sHt c m f (i + 1) + 1 else 0
def sKd (x : Int32) : Option Nat := if x = 98 then some 0 else if x = 100 then some 1 else if x = 112 then some 2 else if x = 99 then some 3 else if x = 116 then some 4 else if x = 101 then some 5 else none
abbrev xT : Type := Nat × (Nat → Nat) × (Nat → Nat) × (Nat → Nat)
def upN (f : Nat → Nat) (i x : Nat) : Nat → Nat := fun k => if k = i then x else f k
def sBf (c : Nat → Int32) (m n : Nat) (T : xT) (j : Nat) : Option Nat :=
  if sKd (c j) = none ∨ 3 ≤ T.1 then some j else if cFig c m (j + 1) = false ∨ n ≤ cVal c (j + 1) then some (j + 1) else if cFig c m (j + 2) = false ∨ cVal c (j + 2) < 1 then some (j + 2) else none
def sAd (c : Nat → Int32) (T : xT) (j : Nat) : xT := (T.1 + 1, upN T.2.1 T.1 ((sKd (c j)).getD 0), upN T.2.2.1 T.1 (cVal c (j + 1)), upN T.2.2.2 T.1 (cVal c (j + 2)))
def sBd (c : Nat → Int32) (m n : Nat) : Nat → Nat → xT → Int32 × xT
  | 0, i, T => (nI i, T)
  | f + 1, i, T => if m ≤ sBl c m (m - i) i then (-9, T) else match sBf c m n T (sBl c m (m - i) i) with
    | some q => (nI q, T)
    | none => sBd c m n f (sBl c m (m - i) i + 3) (sAd c T (sBl c m (m - i) i))
def xT0 : xT := (0, fun _ => 0, fun _ => 0, fun _ => 0)
def sPar2 (c : Nat → Int32) (m i0 n : Nat) : Int32 × Nat × (Nat → Nat) × xT :=
  if n < 2 then (nI (i0 + 1 + n), n, fun x => cVal c (i0 + 1 + x), xT0) else ((sBd c m n 4 (i0 + 1 + n) xT0).1, n, fun x => cVal c (i0 + 1 + x), (sBd c m n 4 (i0 + 1 + n) xT0).2)
def sPar1 (c : Nat → Int32) (m i0 : Nat) : Int32 × Nat × (Nat → Nat) × xT :=
  if m ≤ i0 ∨ c i0 ≠ 103 then (nI i0, 0, fun _ => 0, xT0) else sPar2 c m i0 (sHt c m 10 (i0 + 1))
def sPar (c : Nat → Int32) (m : Nat) : Int32 × Nat × (Nat → Nat) × xT := sPar1 c m (sBl c m m 0)
theorem i32_48 : (48 : Int32).toInt = 48 := by decide
theorem i32_57 : (57 : Int32).toInt = 57 := by decide
theorem i32_9 : (9 : Int32).toInt = 9 := by decide
theorem i32_2 : (2 : Int32).toInt = 2 := by decide
theorem fig_1 {x : Int32} (h1 : 48 ≤ x.toInt) (h2 : x.toInt ≤ 57) : x - 48 = nI (x.toInt - 48).toNat ∧ (x - 48).toInt = x.toInt - 48 := by
  have e : (x - 48).toInt = x.toInt - 48 := by
    rw [i32sub (by rw [i32_48]; omega) (by rw [i32_48]; omega), i32_48]
  refine ⟨?_, e⟩
  rw [i32eq, e, nIi (by omega)]
  omega
theorem fig_0 {x : Int32} (h1 : 0 ≤ (x - 48).toInt) (h2 : (x - 48).toInt ≤ 9) : 48 ≤ x.toInt ∧ x.toInt ≤ 57 := by
  have e : x = (x - 48) + 48 := (Int32.sub_add_cancel x 48).symm
  have e2 : ((x - 48) + 48).toInt = (x - 48).toInt + 48 := by
    rw [i32add (by rw [i32_48]; omega) (by rw [i32_48]; omega), i32_48]
  rw [← e] at e2
  omega
theorem sBl_ge (c : Nat → Int32) (m : Nat) : ∀ (f i : Nat), i ≤ sBl c m f i
  | 0, i => Nat.le_refl _
  | f + 1, i => by
    rw [sBl]
    split
    · exact Nat.le_trans (Nat.le_succ i) (sBl_ge c m f (i + 1))
    · exact Nat.le_refl _
theorem sBl_le (c : Nat → Int32) (m : Nat) : ∀ (f i : Nat), i ≤ m → sBl c m f i ≤ m
  | 0, i, h => h
  | f + 1, i, h => by
    rw [sBl]
    split
    · exact sBl_le c m f (i + 1) (by omega)
    · exact h
theorem sBl_end (c : Nat → Int32) (m : Nat) : ∀ (f i : Nat), m - i ≤ f → sBl c m f i < m → c (sBl c m f i) ≠ 32
  | 0, i, h, h2 => by rw [sBl] at h2; omega
  | f + 1, i, h, h2 => by
    rw [sBl] at h2 ⊢
    split at h2
    · rename_i q
      rw [if_pos q]
      exact sBl_end c m f (i + 1) (by omega) h2
    · rename_i q
      rw [if_neg q]
      exact fun q2 => q ⟨h2, q2⟩
theorem sHt_le (c : Nat → Int32) (m : Nat) : ∀ (f i : Nat), sHt c m f i ≤ f ∧ (i ≤ m → i + sHt c m f i ≤ m)
  | 0, i => by simp [sHt]
  | f + 1, i => by
    rw [sHt]
    split
    · rename_i q
      have q2 := of_decide_eq_true q
      have := sHt_le c m f (i + 1)
      omega
    · omega
theorem sHt_fig (c : Nat → Int32) (m : Nat) : ∀ (f i x : Nat), x < sHt c m f i → cFig c m (i + x) = true
  | 0, i, x, h => by simp [sHt] at h
  | f + 1, i, x, h => by
    rw [sHt] at h
    split at h
    · rename_i q
      cases x with
      | zero => exact q
      | succ x =>
        have := sHt_fig c m f (i + 1) x (by omega)
        rw [show i + (x + 1) = i + 1 + x by omega]
        exact this
    · omega
theorem sHt_no (c : Nat → Int32) (m : Nat) : ∀ (f i : Nat), sHt c m f i < f → cFig c m (i + sHt c m f i) = false
  | 0, i, h => absurd h (Nat.not_lt_zero _)
  | f + 1, i, h => by
    rw [sHt] at h ⊢
    split at h
    · rename_i q
      rw [if_pos q]
      have := sHt_no c m f (i + 1) (by omega)
      rw [show i + (sHt c m f (i + 1) + 1) = i + 1 + sHt c m f (i + 1) by omega]
      exact this
    · rename_i q
      rw [if_neg q]
      simpa using q
theorem cVal_le {c : Nat → Int32} {m i : Nat} (h : cFig c m i = true) : cVal c i ≤ 9 ∧ c i - 48 = nI (cVal c i) ∧ i < m := by
  have q := of_decide_eq_true h
  have := fig_1 q.2.1 q.2.2
  unfold cVal
  exact ⟨by omega, this.1, q.1⟩
def TB (n : Nat) (T : xT) : Prop := T.1 ≤ 3 ∧ ∀ i, i < T.1 → T.2.1 i < 6 ∧ T.2.2.1 i < n ∧ 1 ≤ T.2.2.2 i ∧ T.2.2.2 i ≤ 9
theorem sKd_lt {x : Int32} {k : Nat} (h : sKd x = some k) : k < 6 := by
  unfold sKd at h
  repeat' split at h
  all_goals first | (injection h with h; omega) | exact absurd h (by simp)
theorem sBf_none {c : Nat → Int32} {m n : Nat} {T : xT} {j : Nat} (h : sBf c m n T j = none) : (∃ k, sKd (c j) = some k) ∧ T.1 < 3 ∧ cFig c m (j + 1) = true ∧ cVal c (j + 1) < n ∧ cFig c m (j + 2) = true ∧ 1 ≤ cVal c (j + 2) := by
  unfold sBf at h
  split at h
  · exact absurd h (by simp)
  · rename_i q1
    split at h
    · exact absurd h (by simp)
    · rename_i q2
      split at h
      · exact absurd h (by simp)
      · rename_i q3
        refine ⟨?_, by omega, ?_, by omega, ?_, by omega⟩
        · cases hk : sKd (c j) with
          | none => exact absurd (Or.inl hk) q1
          | some k => exact ⟨k, rfl⟩
        · cases hf : cFig c m (j + 1)
          · exact absurd (Or.inl hf) q2
          · rfl
        · cases hf : cFig c m (j + 2)
          · exact absurd (Or.inl hf) q3
          · rfl
theorem sAd_TB {c : Nat → Int32} {m n : Nat} {T : xT} {j : Nat} (hT : TB n T) (h : sBf c m n T j = none) : TB n (sAd c T j) := by
  obtain ⟨⟨k, hk⟩, h3, f1, v1, f2, v2⟩ := sBf_none h
  have a1 := cVal_le f1
  have a2 := cVal_le f2
  have a3 := sKd_lt hk
  refine ⟨by unfold sAd; dsimp only; omega, fun i hi => ?_⟩
  unfold sAd at hi ⊢
  dsimp only at hi ⊢
  unfold upN
  by_cases e : i = T.1
  · simp only [e, if_true, hk, Option.getD_some]
    omega
  · simp only [e, if_false]
    exact hT.2 i (by omega)
theorem sBd_TB {c : Nat → Int32} {m n : Nat} : ∀ (f i : Nat) (T : xT), TB n T → TB n (sBd c m n f i T).2
  | 0, i, T, h => h
  | f + 1, i, T, h => by
    rw [sBd]
    split
    · exact h
    · split
      · exact h
      · rename_i q
        exact sBd_TB f _ _ (sAd_TB h q)
/-- what is read, when nothing is at fault -/
theorem sPar_good {c : Nat → Int32} {m : Nat} (hm : m ≤ 80) (h : (sPar c m).1 = -9) : 2 ≤ (sPar c m).2.1 ∧ (sPar c m).2.1 ≤ 10 ∧ (∀ x, x < (sPar c m).2.1 → (sPar c m).2.2.1 x ≤ 9) ∧ TB (sPar c m).2.1 (sPar c m).2.2.2 := by
  have hb := sBl_le c m m 0 (Nat.zero_le _)
  unfold sPar at h ⊢
  generalize sBl c m m 0 = i0 at hb h ⊢
  unfold sPar1 at h ⊢
  split at h
  · exact absurd h (nI_ne9 (by omega))
  · rename_i q
    rw [if_neg q]
    have hh := sHt_le c m 10 (i0 + 1)
    have hf := sHt_fig c m 10 (i0 + 1)
    generalize sHt c m 10 (i0 + 1) = n at hh hf h ⊢
    unfold sPar2 at h ⊢
    split at h
    · exact absurd h (nI_ne9 (by omega))
    · rename_i q2
      rw [if_neg q2]
      dsimp only
      refine ⟨by omega, hh.1, fun x hx => (cVal_le (hf x hx)).1, sBd_TB 4 _ _ ⟨by decide, fun i hi => absurd hi (Nat.not_lt_zero _)⟩⟩
theorem sm_le9 {g : Nat → Nat} : ∀ {n : Nat}, (∀ x, x < n → g x ≤ 9) → sm g n ≤ 9 * n
  | 0, _ => Nat.le_refl _
  | n + 1, h => by
    have := sm_le9 (g := g) (n := n) (fun x hx => h x (by omega))
    have h2 := h n (by omega)
    rw [sm]; omega
def CT (v : xS) (n : Nat) (T : xT) : Prop := v.1 20 4 = nI n ∧ v.1 20 5 = nI T.1 ∧ ∀ i, i < T.1 → v.1 22 i = nI (T.2.1 i) ∧ v.1 23 i = nI (T.2.2.1 i) ∧ v.1 24 i = nI (T.2.2.2 i)
section CREAD
variable {G : xG} {d : Nat} {z : xZ} {v : xS} {c : Nat → Int32} {t m : Nat}
theorem ok_getN {Q : Int32 → xS → Prop} {s p mm : Nat} (B : Base z) (hs : xShelf z s p mm) (W : WS v s p mm) {j k n : Nat} (hj : j < p) (he : v.1 (s + 2) j = nI n) (hn : n ≤ 80) (hk : k < n) (hq : Q (v.1 (s + 3 + j) k) v) : oX4_get G (d + 3) [.ref s, .int (nI j), .int (nI k)] z v Q := by
  have en : (nI n).toInt = n := nIi (by omega)
  refine ok_get B hs W hj (fun k' e h1 h2 => ?_) (fun h => absurd ⟨by rw [nIi (by omega)]; omega, by rw [he, en, nIi (by omega)]; omega⟩ h)
  rw [he, en] at h1
  have : k = k' := nIinj (by omega) (by omega) e
  rw [← this]
  exact hq
/-- a text with m places, c in them -/
def TX (v : xS) (t m : Nat) (c : Nat → Int32) : Prop := WS v 10 4 80 ∧ t < 4 ∧ m ≤ 80 ∧ v.1 12 t = nI m ∧ ∀ i, i < m → v.1 (13 + t) i = c i
theorem TX.same {v1 : xS} {S : List Nat} (h : TX v t m c) (hs : Same S v v1) (h1 : ∀ a, a ∈ S → 20 ≤ a := by simp) : TX v1 t m c := by
  obtain ⟨⟨w1, w2, w3⟩, ht, a, b, e⟩ := h
  have key : ∀ a, a < 20 → v1.1 a = v.1 a := fun a ha => hs.2 a (fun q => by have := h1 a q; omega)
  refine ⟨⟨w1, by rw [key 10 (by decide)]; exact w2, fun r hr => by rw [key (10 + 2) (by decide)]; exact w3 r hr⟩, ht, a, by rw [key 12 (by decide)]; exact b, fun i hi => by rw [key (13 + t) (by omega)]; exact e i hi⟩
theorem ok_behindBlanks {Q : Int32 → xS → Prop} (B : Base z) (hT : TX v t m c) {i : Nat} (hi : i ≤ m) (hq : Q (nI (sBl c m (m - i) i)) v) : oX3_behindBlanks G (d + 4) [.ref 20, .ref 10, .int (nI t), .int (nI i)] z v Q := by
  obtain ⟨W, ht, hm, he, hc⟩ := hT
  have en : (nI m).toInt = m := nIi (by omega)
  have loop : ∀ (f k : Nat), m - k = f → k ≤ m → (Q (nI (sBl c m f k)) v) → aX3_behindBlanks G (d + 4) 3 [some (.ref 20), some (.ref 10), some (.int (nI t)), some (.int (nI i)), some (.int (nI k))] [] z v Q := by
    intro f
    induction f with
    | zero =>
      intro k hf hk hq
      refine vc_X3_behindBlanks_3 B (ok_sizeOf B (bS_10 B) (by decide) ht ?_)
      rw [he]
      exact bt (by rw [i32le, en, nIi (by omega)]; omega) hq
    | succ f ih =>
      intro k hf hk hq
      have hkm : k < m := by omega
      refine vc_X3_behindBlanks_3 B (ok_sizeOf B (bS_10 B) (by decide) ht ?_)
      rw [he]
      refine bf (by rw [i32le, en, nIi (by omega)]; omega) (ok_getN B (bS_10 B) W ht he hm hkm ?_)
      rw [show 10 + 3 + t = 13 + t by omega, hc k hkm]
      rw [sBl] at hq
      refine ⟨fun q => ?_, fun q => ?_⟩
      · rw [if_neg (fun q2 => q q2.2)] at hq
        exact hq
      · rw [if_pos ⟨hkm, q⟩] at hq
        rw [nI_1]
        exact ih (k + 1) (by omega) (by omega) hq
  exact vc_X3_behindBlanks B (loop (m - i) i rfl hi hq)
theorem ok_figureAt {Q : Int32 → xS → Prop} (B : Base z) (hT : TX v t m c) {i : Nat} (hi : i < 1000) (h1 : cFig c m i = true → Q (nI (cVal c i)) v) (h0 : cFig c m i = false → Q (-1) v) : oX3_figureAt G (d + 4) [.ref 10, .int (nI t), .int (nI i)] z v Q := by
  obtain ⟨W, ht, hm, he, hc⟩ := hT
  have en : (nI m).toInt = m := nIi (by omega)
  have ei : (nI i).toInt = i := nIi (by omega)
  refine vc_X3_figureAt B (ok_reaches B (bS_10 B) (by decide) ht (fun a b => br1 ?_) (fun a => br0 (h0 ?_)))
  · rw [show 10 + 2 = 12 from rfl, he, en, ei] at b
    have him : i < m := by omega
    refine ok_getN B (bS_10 B) W ht he hm him ?_
    rw [show 10 + 3 + t = 13 + t by omega, hc i him]
    refine ⟨fun q => h0 (decide_eq_false (fun q2 => ?_)), fun q => ⟨fun q3 => h0 (decide_eq_false (fun q2 => ?_)), fun q3 => ?_⟩⟩
    · have := fig_1 q2.2.1 q2.2.2
      rw [i32lt, i32_0] at q; omega
    · have := fig_1 q2.2.1 q2.2.2
      rw [i32lt, i32_9] at q3; omega
    · rw [i32lt, i32_0] at q
      rw [i32lt, i32_9] at q3
      have := fig_0 (x := c i) (by omega) (by omega)
      rw [(fig_1 this.1 this.2).1]
      exact h1 (decide_eq_true ⟨him, this.1, this.2⟩)
  · rw [show 10 + 2 = 12 from rfl, he, en, ei] at a
    exact decide_eq_false (fun q => a ⟨by omega, by omega⟩)
theorem ok_behindHeights {Q : Int32 → xS → Prop} (B : Base z) (hT : TX v t m c) (h4 : v.1 20 4 = 0) {i : Nat} (hi : i ≤ m) (hq : ∀ v1, Same [20, 21] v v1 → (∀ f, f ≠ 4 → v1.1 20 f = v.1 20 f) → v1.1 20 4 = nI (sHt c m 10 i) → (∀ x, x < sHt c m 10 i → v1.1 21 x = nI (cVal c (i + x))) → Q (nI (i + sHt c m 10 i)) v1) : oX3_behindHeights G (d + 5) [.ref 20, .ref 10, .int (nI t), .int (nI i)] z v Q := by
  have hm := hT.2.2.1
  have loop : ∀ (f n : Nat) (v1 : xS), n + f = 10 → i + n ≤ m → n + sHt c m f (i + n) = sHt c m 10 i → Same [20, 21] v v1 → (∀ f, f ≠ 4 → v1.1 20 f = v.1 20 f) → v1.1 20 4 = nI n → (∀ x, x < n → v1.1 21 x = nI (cVal c (i + x))) → aX3_behindHeights G (d + 5) 3 [some (.ref 20), some (.ref 10), some (.int (nI t)), some (.int (nI i)), some (.int (nI (i + n)))] [] z v1 Q := by
    intro f
    induction f with
    | zero =>
      intro n v1 hn hin hs hS hf h4 hx
      have e10 : n = 10 := by omega
      rw [sHt, Nat.add_zero] at hs
      refine vc_X3_behindHeights_3 B (bt (by rw [h4, i32le, i32_10, nIi (by omega)]; omega) ?_)
      rw [hs] at h4 hx ⊢
      exact hq v1 hS hf h4 hx
    | succ f ih =>
      intro n v1 hn hin hs hS hf h4 hx
      have hT1 : TX v1 t m c := hT.same hS
      rw [sHt] at hs
      have vn : vp_in (v1.1 20 4) 10 := by rw [h4]; exact vpN (by omega) (by omega)
      refine vc_X3_behindHeights_3 B (bf (by rw [h4, i32le, i32_10, nIi (by omega)]; omega) (ok_figureAt B hT1 (by omega) (fun q => bf (by rw [i32lt, i32_0, nIi (by have := cVal_le q; omega)]; omega) (ok_figureAt B hT1 (by omega) (fun _ => ⟨vn, fun v6 e6 v7 e7 => ?_⟩) (fun q2 => by rw [q] at q2; exact absurd q2 (by decide)))) (fun q => bt (by decide) ?_)))
      · have q2 := (cVal_le q).2.2
        rw [if_pos q] at hs
        rw [h4, clN (by omega)] at e6
        have f6 : v6.1 20 = v1.1 20 := by rw [e6, wV_ne (by decide)]
        rw [f6, h4, nI_1] at e7
        rw [nI_1, Nat.add_assoc]
        refine ih (n + 1) v7 (by omega) (by omega) (by rw [← Nat.add_assoc]; omega) (by rw [e7, e6]; exact (hS.wV (by simp)).wV (by simp)) (fun f hff => by rw [e7, wV_other _ _ _ _ _ hff, f6]; exact hf f hff) (by rw [e7, wV_at]) (fun x hxx => ?_)
        rw [e7, wV_ne (by decide), e6]
        by_cases hxn : x = n
        · rw [hxn, wV_at]
        · rw [wV_other _ _ _ _ _ hxn]; exact hx x (by omega)
      · rw [if_neg (by rw [q]; decide), Nat.add_zero] at hs
        rw [hs] at h4 hx ⊢
        exact hq v1 hS hf h4 hx
  exact vc_X3_behindHeights B (loop 10 0 v rfl hi (by rw [Nat.zero_add]; rfl) (Same.rf _ _) (fun _ _ => rfl) h4 (fun x h => absurd h (Nat.not_lt_zero _)))
theorem sKd_ok : ∀ k, k < 6 → sKd ((xSv 0).getD k 0) = some k := by decide
theorem sKd_no {x : Int32} (h : ∀ k, k < 6 → (xSv 0).getD k 0 ≠ x) : sKd x = none := by
  unfold sKd
  rw [if_neg (fun q => h 0 (by decide) q.symm), if_neg (fun q => h 1 (by decide) q.symm), if_neg (fun q => h 2 (by decide) q.symm), if_neg (fun q => h 3 (by decide) q.symm), if_neg (fun q => h 4 (by decide) q.symm), if_neg (fun q => h 5 (by decide) q.symm)]
theorem ok_kindOf {Q : Int32 → xS → Prop} (B : Base z) {x : Int32} (h1 : ∀ k, sKd x = some k → Q (nI k) v) (h0 : sKd x = none → Q (-1) v) : oX3_kindOf G (d + 1) [.int x] z v Q := by
  have loop : ∀ (f k : Nat), k + f = 6 → (∀ j, j < k → (xSv 0).getD j 0 ≠ x) → aX3_kindOf G (d + 1) 2 [some (.int x), some (.int (nI k))] [] z v Q := by
    intro f
    induction f with
    | zero =>
      intro k hk h
      have : k = 6 := by omega
      subst this
      exact vc_X3_kindOf_2 B (bt (by decide) (h0 (sKd_no h)))
    | succ f ih =>
      intro k hk h
      refine vc_X3_kindOf_2 B (bf (by rw [i32le, nIi (by omega), show (6 : Int32).toInt = 6 by decide]; omega) ⟨vpN (by omega) (by omega), ?_⟩)
      rw [clN (by omega), nI_1]
      refine ⟨fun q => ih (k + 1) (by omega) (fun j hj => ?_), fun q => h1 k (by rw [← q]; exact sKd_ok k (by omega))⟩
      by_cases hjk : j = k
      · rw [hjk]; exact q
      · exact h j (by omega)
  exact vc_X3_kindOf B (loop 6 0 rfl (fun j h => absurd h (Nat.not_lt_zero _)))
theorem ok_bandFault {Q : Int32 → xS → Prop} (B : Base z) (hT : TX v t m c) {n j : Nat} {T : xT} (hC : CT v n T) (hn : n ≤ 10) (hT3 : T.1 ≤ 3) (hj : j < m) (h1 : ∀ q, sBf c m n T j = some q → Q (nI q) v) (h0 : sBf c m n T j = none → ∀ v1, Same [20, 22, 23, 24] v v1 → CT v1 n (sAd c T j) → Q (-9) v1) : oX3_bandFault G (d + 5) [.ref 20, .ref 10, .int (nI t), .int (nI j)] z v Q := by
  obtain ⟨W, ht, hm, he, hc⟩ := hT
  have hT' : TX v t m c := ⟨W, ht, hm, he, hc⟩
  obtain ⟨c4, c5, cc⟩ := hC
  have en : nI j + 1 = nI (j + 1) := nI_1 j
  have en2 : nI j + 2 = nI (j + 2) := by rw [show (2 : Int32) = nI 2 from rfl, nI_add]
  refine vc_X3_bandFault B (ok_getN B (bS_10 B) W ht he hm hj ?_)
  rw [show 10 + 3 + t = 13 + t by omega, hc j hj, en, en2]
  refine ok_kindOf B (fun k hk => ?_) (fun hk => bt (by decide) (h1 j (by unfold sBf; rw [if_pos (Or.inl hk)])))
  have hk6 := sKd_lt hk
  refine bf (by rw [i32lt, i32_0, nIi (by omega)]; omega) ⟨fun q5 => ?_, fun q5 => h1 j ?_⟩
  · rw [c5, i32lt, i32_3, nIi (by omega)] at q5
    have s1 : ¬ (sKd (c j) = none ∨ 3 ≤ T.1) := by rw [hk]; simp; omega
    refine ok_figureAt B hT' (by omega) (fun f1 => ?_) (fun f1 => bt (by decide) (h1 (j + 1) (by unfold sBf; rw [if_neg s1, if_pos (Or.inl f1)])))
    have v1 := cVal_le f1
    refine bf (by rw [i32lt, i32_0, nIi (by omega)]; omega) ⟨fun q6 => ?_, fun q6 => h1 (j + 1) ?_⟩
    · rw [c4, i32lt, nIi (by omega), nIi (by omega)] at q6
      have s2 : ¬ (cFig c m (j + 1) = false ∨ n ≤ cVal c (j + 1)) := by rw [f1]; simp; omega
      refine ok_figureAt B hT' (by omega) (fun f2 => ?_) (fun f2 => bf (by decide) (h1 (j + 2) (by unfold sBf; rw [if_neg s1, if_neg s2, if_pos (Or.inl f2)])))
      have v2 := cVal_le f2
      refine ⟨fun q7 => ?_, fun q7 => h1 (j + 2) ?_⟩
      · rw [i32le, i32_1, nIi (by omega)] at q7
        have s3 : ¬ (cFig c m (j + 2) = false ∨ cVal c (j + 2) < 1) := by rw [f2]; simp; omega
        have hv3 : ∀ w : xS, w.1 20 5 = nI T.1 → vp_in (w.1 20 5) 3 := fun w hw => by rw [hw]; exact vpN (by omega) (by omega)
        refine ⟨hv3 v c5, fun v10 e10 => ?_⟩
        rw [c5, clN (by omega)] at e10
        have g10 : v10.1 20 = v.1 20 := by rw [e10, wV_ne (by decide)]
        refine ⟨hv3 v10 (by rw [g10]; exact c5), fun v12 e12 => ?_⟩
        rw [g10, c5, clN (by omega)] at e12
        have g12 : v12.1 20 = v.1 20 := by rw [e12, wV_ne (by decide), g10]
        refine ⟨hv3 v12 (by rw [g12]; exact c5), fun v14 e14 v15 e15 => ?_⟩
        rw [g12, c5, clN (by omega)] at e14
        have g14 : v14.1 20 = v.1 20 := by rw [e14, wV_ne (by decide), g12]
        rw [g14, c5, nI_1] at e15
        refine h0 (by unfold sBf; rw [if_neg s1, if_neg s2, if_neg s3]) v15 (by rw [e15, e14, e12, e10]; exact ((((Same.rf _ _).wV (by simp)).wV (by simp)).wV (by simp)).wV (by simp)) ⟨?_, ?_, fun i hi => ?_⟩
        · rw [e15, wV_other _ _ _ _ _ (by decide), g14]; exact c4
        · rw [e15, wV_at]; rfl
        · have k22 : v15.1 22 = upd (v.1 22) T.1 (nI k) := by rw [e15, wV_ne (by decide), e14, wV_ne (by decide), e12, wV_ne (by decide), e10, wV_self]
          have k23 : v15.1 23 = upd (v.1 23) T.1 (nI (cVal c (j + 1))) := by rw [e15, wV_ne (by decide), e14, wV_ne (by decide), e12, wV_self, e10, wV_ne (by decide)]
          have k24 : v15.1 24 = upd (v.1 24) T.1 (nI (cVal c (j + 2))) := by rw [e15, wV_ne (by decide), e14, wV_self, e12, wV_ne (by decide), e10, wV_ne (by decide)]
          rw [k22, k23, k24]
          unfold sAd at hi ⊢
          dsimp only at hi ⊢
          unfold upN upd
          by_cases e : i = T.1
          · simp [e, hk]
          · simp only [e, if_false]
            exact cc i (by omega)
      · rw [i32le, i32_1, nIi (by omega)] at q7
        unfold sBf; rw [if_neg s1, if_neg s2, if_pos (Or.inr (by omega))]
    · rw [c4, i32lt, nIi (by omega), nIi (by omega)] at q6
      unfold sBf; rw [if_neg s1, if_pos (Or.inr (by omega))]
  · rw [c5, i32lt, i32_3, nIi (by omega)] at q5
    unfold sBf; rw [if_pos (Or.inr (by omega))]
theorem ok_read {Q : Int32 → xS → Prop} (B : Base z) (hT : TX v t m c) (hq : ∀ v1, Same [20, 21, 22, 23, 24] v v1 → ((sPar c m).1 = -9 → CT v1 (sPar c m).2.1 (sPar c m).2.2.2 ∧ ∀ x, x < (sPar c m).2.1 → v1.1 21 x = nI ((sPar c m).2.2.1 x)) → Q (sPar c m).1 v1) : oX3_read G (d + 6) [.ref 20, .ref 10, .int (nI t)] z v Q := by
  have hm := hT.2.2.1
  have ht := hT.2.1
  refine vc_X3_read B (fun v1 e1 v2 e2 => ?_)
  have hS2 : Same [20, 21, 22, 23, 24] v v2 := by rw [e2, e1]; exact ((Same.rf _ _).wV (by simp)).wV (by simp)
  have hT2 : TX v2 t m c := hT.same hS2
  refine ok_sizeOf B (bS_10 B) (by decide) ht ?_
  rw [show 10 + 2 = 12 from rfl, hT2.2.2.2.1]
  refine ok_behindBlanks (i := 0) B hT2 (Nat.zero_le _) ?_
  rw [Nat.sub_zero]
  unfold sPar at hq
  have hb := sBl_le c m m 0 (Nat.zero_le _)
  generalize sBl c m m 0 = i0 at hb hq ⊢
  have ne9 : ∀ q, q < 1000 → ∀ {X : Prop}, nI q = -9 → X := fun q hq1 X h => absurd h (nI_ne9 (by omega))
  unfold sPar1 at hq
  refine ⟨fun q => ?_, fun q => ?_⟩
  · rw [i32le, nIi (by omega), nIi (by omega)] at q
    rw [if_pos (Or.inl (by omega))] at hq
    exact hq v2 hS2 (ne9 _ (by omega))
  · rw [i32le, nIi (by omega), nIi (by omega)] at q
    have hi0 : i0 < m := by omega
    refine ok_getN B (bS_10 B) hT2.1 ht hT2.2.2.2.1 hm hi0 ?_
    rw [show 10 + 3 + t = 13 + t by omega, hT2.2.2.2.2 i0 hi0]
    refine ⟨fun q2 => ?_, fun q2 => ?_⟩
    · rw [if_neg (by rw [q2]; simp; omega)] at hq
      rw [nI_1]
      have v24 : v2.1 20 4 = 0 := by rw [e2, wV_other _ _ _ _ _ (by decide), e1, wV_at]
      have v25 : v2.1 20 5 = 0 := by rw [e2, wV_at]
      refine ok_behindHeights B hT2 v24 (by omega) (fun v9 hS9 hf9 h49 h21 => ?_)
      have hh := sHt_le c m 10 (i0 + 1)
      generalize sHt c m 10 (i0 + 1) = n at hh h49 h21 hq ⊢
      have hS9' : Same [20, 21, 22, 23, 24] v v9 := hS2.trans (hS9.mono (by simp))
      unfold sPar2 at hq
      rw [h49]
      refine ⟨fun q3 => ?_, fun q3 => ?_⟩
      · rw [i32le, i32_2, nIi (by omega)] at q3
        rw [if_neg (by omega)] at hq
        dsimp only at hq
        have loop : ∀ (f item i : Nat) (T : xT) (w : xS), item + f = 4 → T.1 + f = 4 → i ≤ m → Same [20, 21, 22, 23, 24] v w → CT w n T → (∀ x, x < n → w.1 21 x = nI (cVal c (i0 + 1 + x))) → (∀ v1, Same [20, 21, 22, 23, 24] v v1 → ((sBd c m n f i T).1 = -9 → CT v1 n (sBd c m n f i T).2 ∧ ∀ x, x < n → v1.1 21 x = nI (cVal c (i0 + 1 + x))) → Q (sBd c m n f i T).1 v1) → aX3_read G (d + 6) 72 [some (.ref 20), some (.ref 10), some (.int (nI t)), some (.int (nI m)), some (.int (nI i)), some (.int (nI item)), none] [] z w Q := by
          intro f
          induction f with
          | zero =>
            intro item i T w hf hTf hi hSw hCw hxw hqq
            refine vc_X3_read_72 B (bt (by rw [i32lt, i32_3, nIi (by omega)]; omega) ?_)
            exact hqq w hSw (fun h => absurd h (nI_ne9 (by omega)))
          | succ f ih =>
            intro item i T w hf hTf hi hSw hCw hxw hqq
            have hTw : TX w t m c := hT.same hSw
            refine vc_X3_read_72 B (bf (by rw [i32lt, i32_3, nIi (by omega)]; omega) (ok_behindBlanks B hTw hi ?_))
            rw [sBd] at hqq
            have hj := sBl_le c m (m - i) i hi
            generalize sBl c m (m - i) i = j at hj hqq ⊢
            refine ⟨fun qj => ?_, fun qj => ?_⟩
            · rw [i32lt, nIi (by omega), nIi (by omega)] at qj
              rw [if_neg (by omega)] at hqq
              refine ok_bandFault B hTw hCw (by omega) (by omega) (by omega) (fun q4 h4 => ?_) (fun h4 v5 hS5 hC5 => ?_)
              · rw [h4] at hqq
                have hq4 : q4 < 1000 := by
                  unfold sBf at h4
                  repeat' split at h4
                  all_goals first | (injection h4 with h4; omega) | exact absurd h4 (by simp)
                exact ⟨fun q5 => absurd q5 (nI_ne9 (by omega)), fun _ => hqq w hSw (fun q5 => absurd q5 (nI_ne9 (by omega)))⟩
              · rw [h4] at hqq
                dsimp only at hqq
                have hfig := cVal_le (sBf_none h4).2.2.2.2.1
                refine bt rfl ?_
                rw [show nI j + 3 = nI (j + 3) by rw [show (3 : Int32) = nI 3 from rfl, nI_add], nI_1]
                refine ih (item + 1) (j + 3) (sAd c T j) v5 (by omega) (by show T.1 + 1 + f = 4; omega) (by omega) (hSw.trans (hS5.mono (by simp))) hC5 (fun x hx => by rw [hS5.2 21 (by decide)]; exact hxw x hx) hqq
            · rw [i32lt, nIi (by omega), nIi (by omega)] at qj
              rw [if_pos (by omega)] at hqq
              exact hqq w hSw (fun _ => ⟨hCw, hxw⟩)
        refine loop 4 0 (i0 + 1 + n) xT0 v9 rfl rfl (by omega) hS9' ⟨h49, ?_, fun i hi => absurd hi (Nat.not_lt_zero _)⟩ h21 hq
        rw [hf9 5 (by decide)]; exact v25
      · rw [i32le, i32_2, nIi (by omega)] at q3
        rw [if_pos (by omega)] at hq
        exact hq v9 hS9' (ne9 _ (by omega))
    · rw [if_pos (Or.inr q2)] at hq
      exact hq v2 hS2 (ne9 _ (by omega))
end CREAD
