/-! the reference: what it asks of a land, its tunes and evenings -/
theorem i32_1 : (1 : Int32).toInt = 1 := by decide
theorem i32_10 : (10 : Int32).toInt = 10 := by decide
theorem i32_3 : (3 : Int32).toInt = 3 := by decide
theorem div9 {a : Nat} (h : a < 2147483648) : nI a / 9 = nI (a / 9) := pk_div h (by decide) (by decide)
def sShH (D : xD) (i : Nat) (x y : Int) (s : xGs) : xGs := if (if x ≤ dP D i then (dP D i : Int) - x else x - dP D i) ≤ sReach D i then sSh D i x y s else s
def sUpH (D : xD) (i : Nat) : Nat → xGs → xGs
  | 0, s => s
  | m + 1, s => if m + 1 ≤ sReach D i then sPair D i 1 (m + 1) (sUpH D i m s) else sUpH D i m s
def sDnH (D : xD) (i : Nat) : Nat → xGs → xGs
  | 0, s => s
  | m + 1, s => sDnH D i m (if m + 1 ≤ sReach D i then sPair D i (-1) (m + 1) s else s)
theorem sPair_out {D : xD} {i : Nat} {w : Int} {d : Nat} {s : xGs} (hP : dP D i < dn D) (hd : dn D ≤ d) : sPair D i w d s = s := by
  unfold sPair sSh
  rw [if_neg (by omega), if_neg (by omega)]
theorem sUpH_eq {D : xD} {i : Nat} (hP : dP D i < dn D) (s : xGs) : ∀ m, sUpH D i m s = sUp D i (if m < sDist D i then m else sDist D i) s
  | 0 => by
    by_cases h : 0 < sDist D i
    · rw [if_pos h]; rfl
    · rw [if_neg h, show sDist D i = 0 by omega]; rfl
  | m + 1 => by
    have ih := sUpH_eq hP s m
    have hr := sDist_r (D := D) i
    rw [sUpH, ih]
    by_cases h : m < sDist D i
    · rw [if_pos h, if_pos (by omega)]
      by_cases h2 : m + 1 < sDist D i
      · rw [if_pos h2, sUp]
      · rw [if_neg h2, show sDist D i = m + 1 by omega, sUp]
    · rw [if_neg h, if_neg (show ¬ m + 1 < sDist D i by omega)]
      by_cases h3 : m + 1 ≤ sReach D i
      · rw [if_pos h3]
        refine sPair_out hP ?_
        unfold sDist at h
        split at h <;> omega
      · rw [if_neg h3]
theorem sDnH_eq {D : xD} {i : Nat} (hP : dP D i < dn D) : ∀ (m : Nat) (s : xGs), sDnH D i m s = sDn D i (if m < sDist D i then m else sDist D i) s
  | 0, s => by
    by_cases h : 0 < sDist D i
    · rw [if_pos h]; rfl
    · rw [if_neg h, show sDist D i = 0 by omega]; rfl
  | m + 1, s => by
    have hr := sDist_r (D := D) i
    rw [sDnH, sDnH_eq hP m]
    by_cases h : m < sDist D i
    · rw [if_pos h, if_pos (by omega)]
      by_cases h2 : m + 1 < sDist D i
      · rw [if_pos h2, sDn]
      · rw [if_neg h2, show sDist D i = m + 1 by omega, sDn]
    · rw [if_neg h, if_neg (show ¬ m + 1 < sDist D i by omega)]
      by_cases h3 : m + 1 ≤ sReach D i
      · rw [if_pos h3, sPair_out hP]
        unfold sDist at h
        split at h <;> omega
      · rw [if_neg h3]
section MLAND
variable {G : xG} {d : Nat} {z : xZ} {v : xS} {D : xD} {g : Nat → Nat}
theorem om_in {Q : Int32 → xS → Prop} (B : Base z) {x lo hi : Int32} (h1 : lo.toInt ≤ x.toInt → x.toInt ≤ hi.toInt → Q 1 v) (h0 : ¬ (lo.toInt ≤ x.toInt ∧ x.toInt ≤ hi.toInt) → Q 0 v) : oX6_in G (d + 1) [.int x, .int lo, .int hi] z v Q := by
  refine vc_X6_in B ⟨fun c => h0 ?_, fun c => ⟨fun c2 => h0 ?_, fun c2 => h1 ?_ ?_⟩⟩
  · rw [i32lt] at c; omega
  · rw [i32lt] at c2; omega
  · rw [i32lt] at c; omega
  · rw [i32lt] at c2; omega
theorem om_isRow {Q : Int32 → xS → Prop} (B : Base z) {x : Int32} (h1 : inR x 6 → Q 1 v) (h0 : ¬ inR x 6 → Q 0 v) : oX6_isRow G (d + 2) [.int x] z v Q := by
  have e5 : (5 : Int32).toInt = 5 := by decide
  refine vc_X6_isRow B (om_in B (fun a b => ⟨xbl_1, h1 ?_⟩) (fun a => ⟨xbl_0, h0 ?_⟩))
  · rw [i32_0] at a; rw [e5] at b; unfold inR; omega
  · rw [i32_0, e5] at a; unfold inR; omega
theorem om_isText {Q : Int32 → xS → Prop} (B : Base z) {x : Int32} (h1 : inR x 4 → Q 1 v) (h0 : ¬ inR x 4 → Q 0 v) : oX6_isText G (d + 2) [.int x] z v Q := by
  refine vc_X6_isText B (om_in B (fun a b => ⟨xbl_1, h1 ?_⟩) (fun a => ⟨xbl_0, h0 ?_⟩))
  · rw [i32_0] at a; rw [i32_3] at b; unfold inR; omega
  · rw [i32_0, i32_3] at a; unfold inR; omega
theorem om_meet {Q : Int32 → xS → Prop} (B : Base z) {f : Nat} (hf : f < 6) (hq : Q (-3) (wV (wV v 200 0 (nI f)) 201 f (v.1 201 f + 1))) : oX6_meet G (d + 1) [.ref 200, .int (nI f)] z v Q := by
  have vf := vpN (j := f) (n := 6) hf (by omega)
  refine vc_X6_meet B (fun v1 e1 => ⟨vf, vf, fun v4 e4 => ?_⟩)
  rw [clN (by omega)] at e4
  subst e1
  subst e4
  rw [wV_ne (v := v) (a := 200) (b := 201) (by decide)]
  exact hq
theorem om_ask {Q : Int32 → xS → Prop} (B : Base z) {a r : Int32} (hq : Q r (wV v 200 2 a)) : oX6_ask G (d + 1) [.ref 200, .int a, .int r] z v Q :=
  vc_X6_ask B (fun v1 e1 => by subst e1; exact hq)
theorem om_isSpot {Q : Int32 → xS → Prop} (B : Base z) (hL : LM v D) (hD : DB D) {x : Int32} (h1 : inR x (dn D) → Q 1 v) (h0 : ¬ inR x (dn D) → Q 0 v) : oX6_isSpot G (d + 2) [.ref 200, .int x] z v Q := by
  have hn := hD.1
  have e : (v.1 200 8 - 1).toInt = (dn D : Int) - 1 := by rw [hL.1, i32sub (by rw [nIi (by omega), i32_1]; omega) (by rw [nIi (by omega), i32_1]; omega), nIi (by omega), i32_1]
  refine vc_X6_isSpot B (om_in B (fun a b => ⟨xbl_1, h1 ?_⟩) (fun a => ⟨xbl_0, h0 ?_⟩))
  · rw [i32_0] at a; rw [e] at b; unfold inR; omega
  · rw [i32_0, e] at a; unfold inR; omega
theorem om_isBand {Q : Int32 → xS → Prop} (B : Base z) (hL : LM v D) (hD : DB D) {x : Int32} (h1 : inR x (db D) → Q 1 v) (h0 : ¬ inR x (db D) → Q 0 v) : oX6_isBand G (d + 2) [.ref 200, .int x] z v Q := by
  have hn := hD.2.1
  have e : (v.1 200 9 - 1).toInt = (db D : Int) - 1 := by rw [hL.2.1, i32sub (by rw [nIi (by omega), i32_1]; omega) (by rw [nIi (by omega), i32_1]; omega), nIi (by omega), i32_1]
  refine vc_X6_isBand B (om_in B (fun a b => ⟨xbl_1, h1 ?_⟩) (fun a => ⟨xbl_0, h0 ?_⟩))
  · rw [i32_0] at a; rw [e] at b; unfold inR; omega
  · rw [i32_0, e] at a; unfold inR; omega
theorem om_isSpotN {Q : Int32 → xS → Prop} (B : Base z) (hL : LM v D) (hD : DB D) {i : Nat} (hi : i < dn D) (hq : Q 1 v) : oX6_isSpot G (d + 2) [.ref 200, .int (nI i)] z v Q :=
  om_isSpot B hL hD (fun _ => hq) (fun c => absurd (inR_nI hi (by have := hD.1; omega)) c)
theorem om_isBandN {Q : Int32 → xS → Prop} (B : Base z) (hL : LM v D) (hD : DB D) {i : Nat} (hi : i < db D) (hq : Q 1 v) : oX6_isBand G (d + 2) [.ref 200, .int (nI i)] z v Q :=
  om_isBand B hL hD (fun _ => hq) (fun c => absurd (inR_nI hi (by have := hD.2.1; omega)) c)
theorem om_isA {Q : Int32 → xS → Prop} (B : Base z) (hL : LM v D) (hD : DB D) {i q : Nat} (hi : i < db D) (hq2 : q < 6) (h1 : sIs (dK D i) q = true → Q 1 v) (h0 : sIs (dK D i) q = false → Q 0 v) : oX6_isA G (d + 1) [.ref 200, .int (nI i), .int (nI q)] z v Q := by
  have hb := hD.2.1
  obtain ⟨hk, -⟩ := hD.2.2.2 i hi
  have ek := (hL.2.2.2 i hi).1
  have vi := vpN (j := i) (n := 3) (by omega) (by omega)
  unfold sIs at h1 h0
  have hnn : ∀ a b : Nat, a < 6 → b < 6 → (nI a = nI b ↔ a = b) := fun a b ha hb => ⟨fun h => nIinj (by omega) (by omega) h, fun h => by rw [h]⟩
  refine vc_X6_isA B ⟨vi, ?_⟩
  rw [clN (by omega), ek]
  have t1 : (1 : Int32) = nI 1 := rfl
  have t2 : (2 : Int32) = nI 2 := rfl
  have t4 : (4 : Int32) = nI 4 := rfl
  have t5 : (5 : Int32) = nI 5 := rfl
  rw [t1, t2, t4, t5]
  simp only [hnn _ _ hk hq2, hnn _ 1 hq2 (by decide), hnn _ 2 hq2 (by decide), hnn _ 4 hk (by decide), hnn _ 5 hk (by decide)]
  refine ⟨fun c => h1 (decide_eq_true (Or.inl c)), fun c => ⟨fun c1 => ⟨fun c2 => h0 (decide_eq_false (by omega)), fun c2 => ⟨vi, fun c3 => h0 (decide_eq_false (by omega)), fun c3 => h1 (decide_eq_true (by omega))⟩⟩, fun c1 => ⟨vi, fun c2 => h1 (decide_eq_true (by omega)), fun c2 => ⟨fun c3 => h0 (decide_eq_false (by omega)), fun c3 => ⟨vi, fun c4 => h0 (decide_eq_false (by omega)), fun c4 => h1 (decide_eq_true (by omega))⟩⟩⟩⟩⟩
theorem om_reachOf {Q : Int32 → xS → Prop} (B : Base z) (hL : LM v D) (hD : DB D) {i : Nat} (hi : i < db D) (hq : Q (nI (sReach D i)) v) : oX6_reachOf G (d + 1) [.ref 200, .int (nI i)] z v Q := by
  have hb := hD.2.1
  obtain ⟨hk, hP, hu1, hu2⟩ := hD.2.2.2 i hi
  obtain ⟨ek, eP, eu⟩ := hL.2.2.2 i hi
  have vi := vpN (j := i) (n := 3) (by omega) (by omega)
  unfold sReach at hq
  refine vc_X6_reachOf B ⟨vi, ?_⟩
  rw [clN (by omega), ek, eu]
  refine ⟨fun c => ⟨vi, ?_⟩, fun c => ⟨vi, ?_⟩⟩
  · rw [if_neg (fun q => c (by rw [q]; rfl))] at hq
    exact hq
  · rw [if_pos (nIinj (b := 4) (by omega) (by omega) c), ← pk_mul] at hq
    exact hq
theorem om_size {Q : Int32 → xS → Prop} (B : Base z) {x : Int32} (h1 : 0 ≤ x.toInt → Q x v) (h0 : x.toInt < 0 → Q (-x) v) : oX6_size G (d + 1) [.int x] z v Q :=
  vc_X6_size B ⟨fun c => h1 (by rw [i32le, i32_0] at c; exact c), fun c => h0 (by rw [i32le, i32_0] at c; omega)⟩
theorem i32neg {x : Int32} (h : -2147483648 < x.toInt) : (-x).toInt = -x.toInt := by
  have hr := i32r x
  rw [Int32.toInt_neg]; exact bm32 (by omega) (by omega)
theorem om_isHeard {Q : Int32 → xS → Prop} (B : Base z) (hL : LM v D) (hD : DB D) {i j : Nat} (hi : i < db D) (hj : j < dn D) (h1 : sHrd D i j = true → Q 1 v) (h0 : sHrd D i j = false → Q 0 v) : oX6_isHeard G (d + 2) [.ref 200, .int (nI i), .int (nI j)] z v Q := by
  have hb := hD.2.1
  have hn := hD.1
  obtain ⟨hk, hP, hu1, hu2⟩ := hD.2.2.2 i hi
  obtain ⟨ek, eP, eu⟩ := hL.2.2.2 i hi
  have hr := sReach_le hD hi
  have vi := vpN (j := i) (n := 3) (by omega) (by omega)
  have ej : (nI j).toInt = j := nIi (by omega)
  have eP2 : (nI (dP D i)).toInt = dP D i := nIi (by omega)
  have es : (nI j - nI (dP D i)).toInt = (j : Int) - dP D i := by rw [i32sub (by omega) (by omega)]; omega
  have en : (-(nI j - nI (dP D i))).toInt = (dP D i : Int) - j := by rw [i32neg (by omega)]; omega
  unfold sHrd at h1 h0
  refine vc_X6_isHeard B ⟨vi, ?_⟩
  rw [clN (by omega), eP]
  refine om_size B (fun c => ⟨fun c1 => h0 (decide_eq_false ?_), fun c1 => om_reachOf B hL hD hi ⟨fun c2 => h0 (decide_eq_false ?_), fun c2 => h1 (decide_eq_true ?_)⟩⟩) (fun c => ⟨fun c1 => h0 (decide_eq_false ?_), fun c1 => om_reachOf B hL hD hi ⟨fun c2 => h0 (decide_eq_false ?_), fun c2 => h1 (decide_eq_true ?_)⟩⟩)
  · rw [i32le, i32_0] at c1; split <;> omega
  · rw [i32lt, nIi (by omega)] at c2; split <;> omega
  · rw [i32le, i32_0] at c1; rw [i32lt, nIi (by omega)] at c2; split <;> omega
  · rw [i32le, i32_0] at c1; split <;> omega
  · rw [i32lt, nIi (by omega)] at c2; split <;> omega
  · rw [i32le, i32_0] at c1; rw [i32lt, nIi (by omega)] at c2; split <;> omega
theorem om_heardOf {Q : Int32 → xS → Prop} (B : Base z) (hL : LM v D) (hD : DB D) {i : Nat} (hi : i < db D) (hq : Q (sHs D i (dn D)) v) : oX6_heardOf G (d + 3) [.ref 200, .int (nI i)] z v Q := by
  have hb := hD.2.1
  have hn := hD.1
  have e : (v.1 200 8).toInt = dn D := by rw [hL.1]; exact nIi (by omega)
  have or0 : ∀ x : Int32, x ||| 0 = x := fun x => by
    apply Int32.toBitVec_inj.mp
    simp
  have loop : ∀ (c x : Nat), x ≤ dn D → dn D - x = c → aX6_heardOf G (d + 3) 4 [some (.ref 200), some (.int (nI i)), some (.int (sHs D i x)), some (.int (nI x))] [] z v Q := by
    intro c
    induction c with
    | zero =>
      intro x hx hc
      have ei : x = dn D := by omega
      subst ei
      exact vc_X6_heardOf_4 B (bt (by rw [i32le, e, nIi (by omega)]; omega) hq)
    | succ c ih =>
      intro x hx hc
      have := ih (x + 1) (by omega) (by omega)
      refine vc_X6_heardOf_4 B (bf (by rw [i32le, e, nIi (by omega)]; omega) (om_isHeard B hL hD hi (by omega) (fun c1 => br1 ?_) (fun c1 => br0 ?_)))
      · rw [sHs, if_pos c1, ← nI_1] at this
        exact this
      · rw [sHs, if_neg (by rw [c1]; decide), ← nI_1] at this
        rw [or0]
        exact this
  exact vc_X6_heardOf B (loop (dn D) 0 (Nat.zero_le _) (by omega))
theorem om_bandOf {Q : Int32 → xS → Prop} (B : Base z) (hL : LM v D) (hD : DB D) {i w : Nat} (hi : i < db D) (hw : w < 5) (hq : Q (if w = 0 then nI (dK D i) else if w = 1 then nI (dP D i) else if w = 2 then nI (dU D i) else if w = 3 then sHs D i (dn D) else v.1 214 i) v) : oX6_bandOf G (d + 4) [.ref 200, .int (nI i), .int (nI w)] z v Q := by
  have hb := hD.2.1
  obtain ⟨ek, eP, eu⟩ := hL.2.2.2 i hi
  have vi := vpN (j := i) (n := 3) (by omega) (by omega)
  have ne : ∀ k : Nat, k < 10 → ¬ nI w = nI k → w ≠ k := fun k _ h q => h (by rw [q])
  refine vc_X6_bandOf B ⟨fun c0 => ⟨fun c1 => ⟨fun c2 => ⟨fun c3 => ⟨vi, ?_⟩, fun c3 => ?_⟩, fun c2 => ⟨vi, ?_⟩⟩, fun c1 => ⟨vi, ?_⟩⟩, fun c0 => ⟨vi, ?_⟩⟩
  · have h0 := ne 0 (by omega) c0
    have h1 := ne 1 (by omega) c1
    have h2 := ne 2 (by omega) c2
    have h3 := ne 3 (by omega) c3
    rw [if_neg h0, if_neg h1, if_neg h2, if_neg h3] at hq
    rw [clN (by omega)]; exact hq
  · have := nIinj (b := 3) (by omega) (by omega) c3
    subst this
    exact om_heardOf B hL hD hi hq
  · have := nIinj (b := 2) (by omega) (by omega) c2
    subst this
    rw [clN (by omega), eu]; exact hq
  · have := nIinj (b := 1) (by omega) (by omega) c1
    subst this
    rw [clN (by omega), eP]; exact hq
  · have := nIinj (b := 0) (by omega) (by omega) c0
    subst this
    rw [clN (by omega), ek]; exact hq
theorem om_has {Q : Int32 → xS → Prop} (B : Base z) {F j : Nat} (hF : F < 1024) (hj : j < 10) (h1 : F.testBit j = true → Q 1 v) (h0 : F.testBit j = false → Q 0 v) : oX6_has G (d + 1) [.int (nI F), .int (nI j)] z v Q := by
  have hbit := bit1 F hF j hj
  exact vc_X6_has B ⟨fun c => h0 (by rw [← hbit]; exact decide_eq_false c), fun c => h1 (by rw [← hbit]; exact decide_eq_true c)⟩
theorem om_inchesOf {Q : Int32 → xS → Prop} (B : Base z) (hL : LM v D) (hD : DB D) (hG : Gd v 210 D g) (hs : sm g (dn D) ≤ 90) {i x : Nat} (hi : i < db D) (hx : x < dn D) (hq : Q (nI (if sHrd D i x = true then sInch D i x (g x) else 0)) v) : oX6_inchesOf G (d + 3) [.ref 200, .int (nI i), .int (nI x)] z v Q := by
  have hb := hD.2.1
  have hn := hD.1
  obtain ⟨hk, hP, hu1, hu2⟩ := hD.2.2.2 i hi
  obtain ⟨ek, eP, eu⟩ := hL.2.2.2 i hi
  have hgx := sm_le (g := g) hx
  have vi := vpN (j := i) (n := 3) (by omega) (by omega)
  have eh := hG x hx
  refine vc_X6_inchesOf B ⟨vpN (by omega) (by omega), ?_⟩
  rw [clN (j := x) (by omega), eh]
  refine om_isHeard B hL hD hi hx (fun hh => br1 ?_) (fun hh => br0 (by rw [hh, if_neg (by decide)] at hq; exact hq))
  rw [hh, if_pos rfl] at hq
  unfold sInch at hq
  rw [hL.2.2.1]
  refine om_has B hD.F (by omega) (fun hf => nb1 (by rw [if_pos (Or.inl hf)] at hq; exact hq)) (fun hf => nb0 ⟨vi, ?_⟩)
  rw [clN (by omega), ek, eP]
  have fin : ¬ (dK D i = 3 ∧ x < dP D i) → oX6_isA G (d + 2) [.ref 200, .int (nI i), .int 2] z v (fun r8 v7 => ((r8 = 0 → (oX6_isA G (d + 2) [.ref 200, .int (nI i), .int 1] z v7 (fun r10 v9 => ((r10 = 0 → ((1 ≤ nI (g x) → Q 1 v9) ∧ (¬ 1 ≤ nI (g x) → Q (nI (g x)) v9))) ∧ (¬ r10 = 0 → ((2 ≤ nI (g x) → Q 2 v9) ∧ (¬ 2 ≤ nI (g x) → Q (nI (g x)) v9))))))) ∧ (¬ r8 = 0 → ((2 ≤ nI (g x) → (oX6_isA G (d + 2) [.ref 200, .int (nI i), .int 1] z v7 (fun r12 v11 => ((r12 = 0 → ((1 ≤ nI (g x) → Q 1 v11) ∧ (¬ 1 ≤ nI (g x) → Q (nI (g x)) v11))) ∧ (¬ r12 = 0 → ((2 ≤ nI (g x) → Q 2 v11) ∧ (¬ 2 ≤ nI (g x) → Q (nI (g x)) v11))))))) ∧ (¬ 2 ≤ nI (g x) → Q 0 v7))))) := by
    intro hc
    have e1 : (1 : Int32) ≤ nI (g x) ↔ 1 ≤ g x := by rw [i32le, i32_1, nIi (by omega)]; omega
    have e2 : (2 : Int32) ≤ nI (g x) ↔ 2 ≤ g x := by rw [i32le, show (2 : Int32).toInt = 2 by decide, nIi (by omega)]; omega
    rw [e1, e2]
    have hA : sIs (dK D i) 2 = decide (dK D i = 2 ∨ dK D i = 5) := by unfold sIs; congr 1; simp
    have hB : sIs (dK D i) 1 = decide (dK D i = 1 ∨ dK D i = 4) := by unfold sIs; congr 1; simp
    have notf : ¬ ((dF D).testBit x = true ∨ (dK D i = 3 ∧ x < dP D i) ∨ g x < sLeast (dK D i)) ↔ sLeast (dK D i) ≤ g x := by
      rw [hf]
      constructor
      · intro q; exact Nat.le_of_not_lt (fun h => q (Or.inr (Or.inr h)))
      · intro q h
        rcases h with h | h | h
        · exact absurd h (by decide)
        · exact hc h
        · omega
    have small : (sLeast (dK D i) ≤ g x → False) → Q 0 v := fun h => by
      rw [if_pos (Classical.byContradiction fun q => h (notf.mp q))] at hq
      exact hq
    have big : sLeast (dK D i) ≤ g x → Q (nI (if g x < sMost (dK D i) then g x else sMost (dK D i))) v := fun h => by
      rw [if_neg (notf.mpr h)] at hq
      exact hq
    -- behind the question whether it is a DRUM
    have last : sLeast (dK D i) ≤ g x ∨ (sLeast (dK D i) = 1 ∧ g x = 0) → oX6_isA G (d + 2) [.ref 200, .int (nI i), .int 1] z v (fun r10 v9 => ((r10 = 0 → ((1 ≤ g x → Q 1 v9) ∧ (¬ 1 ≤ g x → Q (nI (g x)) v9))) ∧ (¬ r10 = 0 → ((2 ≤ g x → Q 2 v9) ∧ (¬ 2 ≤ g x → Q (nI (g x)) v9))))) := by
      intro hl
      have zero : g x = 0 → Q 0 v := fun h0 => by
        rcases hl with hl | hl
        · have := big hl
          have hl1 : 1 ≤ sLeast (dK D i) := by unfold sLeast; split <;> omega
          omega
        · exact small (fun h => by omega)
      refine om_isA (q := 1) B hL hD hi (by omega) (fun hd => br1 ⟨fun c => ?_, fun c => ?_⟩) (fun hd => br0 ⟨fun c => ?_, fun c => ?_⟩)
      · rw [hB] at hd
        have hm : sMost (dK D i) = 2 := by unfold sMost; rw [if_pos (of_decide_eq_true hd)]
        have := big (by rcases hl with hl | hl <;> omega)
        rw [hm, if_neg (by omega)] at this
        exact this
      · rw [hB] at hd
        have hm : sMost (dK D i) = 2 := by unfold sMost; rw [if_pos (of_decide_eq_true hd)]
        rcases hl with hl | hl
        · have := big hl
          rw [hm, if_pos (by omega)] at this
          exact this
        · have := zero hl.2
          rw [hl.2]; exact this
      · rw [hB] at hd
        have hm : sMost (dK D i) = 1 := by unfold sMost; rw [if_neg (of_decide_eq_false hd)]
        have := big (by rcases hl with hl | hl <;> omega)
        rw [hm, if_neg (by omega)] at this
        exact this
      · have h0 : g x = 0 := by omega
        rw [h0]; exact zero h0
    refine om_isA (q := 2) B hL hD hi (by omega) (fun hp => br1 ⟨fun c => last ?_, fun c => small ?_⟩) (fun hp => br0 (last ?_))
    · rw [hA] at hp
      left
      unfold sLeast; rw [if_pos (of_decide_eq_true hp)]; exact c
    · rw [hA] at hp
      unfold sLeast; rw [if_pos (of_decide_eq_true hp)]; exact fun h => c h
    · rw [hA] at hp
      have hl : sLeast (dK D i) = 1 := by unfold sLeast; rw [if_neg (of_decide_eq_false hp)]
      rw [hl]; omega
  refine ⟨fun c3 => fin (fun q => c3 (by rw [q.1]; rfl)), fun c3 => ⟨vi, fun c4 => ?_, fun c4 => fin (fun q => ?_)⟩⟩
  · rw [i32lt, nIi (by omega), nIi (by omega)] at c4
    rw [if_pos (Or.inr (Or.inl ⟨nIinj (b := 3) (by omega) (by omega) c3, by omega⟩))] at hq
    exact hq
  · rw [i32lt, nIi (by omega), nIi (by omega)] at c4
    omega
end MLAND
