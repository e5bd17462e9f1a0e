/-! pairs: count, digest -/
theorem sCnt_stop {P : Nat → Bool} {m : Nat} (h : ∀ k, m ≤ k → P k = false) : ∀ c, sCnt P (m + c) = sCnt P m
  | 0 => rfl
  | c + 1 => by rw [← Nat.add_assoc, sCnt, sCnt_stop h c, h (m + c) (by omega)]; rfl
theorem sCnt_congr {P P' : Nat → Bool} : ∀ {n : Nat}, (∀ k, k < n → P k = P' k) → sCnt P n = sCnt P' n
  | 0, _ => rfl
  | n + 1, h => by rw [sCnt, sCnt, sCnt_congr (fun k hk => h k (by omega)), h n (by omega)]
def bcx (xa : Int32) : Int32 := (((((((xa - (((xa.toUInt32 >>> ((1 : Int32).toUInt32 &&& Int32.toUInt32 31)).toInt32) &&& 1431655765)) &&& 858993459) + ((((xa - (((xa.toUInt32 >>> ((1 : Int32).toUInt32 &&& Int32.toUInt32 31)).toInt32) &&& 1431655765)).toUInt32 >>> ((2 : Int32).toUInt32 &&& Int32.toUInt32 31)).toInt32) &&& 858993459)) + (((((xa - (((xa.toUInt32 >>> ((1 : Int32).toUInt32 &&& Int32.toUInt32 31)).toInt32) &&& 1431655765)) &&& 858993459) + ((((xa - (((xa.toUInt32 >>> ((1 : Int32).toUInt32 &&& Int32.toUInt32 31)).toInt32) &&& 1431655765)).toUInt32 >>> ((2 : Int32).toUInt32 &&& Int32.toUInt32 31)).toInt32) &&& 858993459)).toUInt32 >>> ((4 : Int32).toUInt32 &&& Int32.toUInt32 31)).toInt32)) &&& 252645135) + (((((((xa - (((xa.toUInt32 >>> ((1 : Int32).toUInt32 &&& Int32.toUInt32 31)).toInt32) &&& 1431655765)) &&& 858993459) + ((((xa - (((xa.toUInt32 >>> ((1 : Int32).toUInt32 &&& Int32.toUInt32 31)).toInt32) &&& 1431655765)).toUInt32 >>> ((2 : Int32).toUInt32 &&& Int32.toUInt32 31)).toInt32) &&& 858993459)) + (((((xa - (((xa.toUInt32 >>> ((1 : Int32).toUInt32 &&& Int32.toUInt32 31)).toInt32) &&& 1431655765)) &&& 858993459) + ((((xa - (((xa.toUInt32 >>> ((1 : Int32).toUInt32 &&& Int32.toUInt32 31)).toInt32) &&& 1431655765)).toUInt32 >>> ((2 : Int32).toUInt32 &&& Int32.toUInt32 31)).toInt32) &&& 858993459)).toUInt32 >>> ((4 : Int32).toUInt32 &&& Int32.toUInt32 31)).toInt32)) &&& 252645135).toUInt32 >>> ((8 : Int32).toUInt32 &&& Int32.toUInt32 31)).toInt32)) + ((((((((xa - (((xa.toUInt32 >>> ((1 : Int32).toUInt32 &&& Int32.toUInt32 31)).toInt32) &&& 1431655765)) &&& 858993459) + ((((xa - (((xa.toUInt32 >>> ((1 : Int32).toUInt32 &&& Int32.toUInt32 31)).toInt32) &&& 1431655765)).toUInt32 >>> ((2 : Int32).toUInt32 &&& Int32.toUInt32 31)).toInt32) &&& 858993459)) + (((((xa - (((xa.toUInt32 >>> ((1 : Int32).toUInt32 &&& Int32.toUInt32 31)).toInt32) &&& 1431655765)) &&& 858993459) + ((((xa - (((xa.toUInt32 >>> ((1 : Int32).toUInt32 &&& Int32.toUInt32 31)).toInt32) &&& 1431655765)).toUInt32 >>> ((2 : Int32).toUInt32 &&& Int32.toUInt32 31)).toInt32) &&& 858993459)).toUInt32 >>> ((4 : Int32).toUInt32 &&& Int32.toUInt32 31)).toInt32)) &&& 252645135) + (((((((xa - (((xa.toUInt32 >>> ((1 : Int32).toUInt32 &&& Int32.toUInt32 31)).toInt32) &&& 1431655765)) &&& 858993459) + ((((xa - (((xa.toUInt32 >>> ((1 : Int32).toUInt32 &&& Int32.toUInt32 31)).toInt32) &&& 1431655765)).toUInt32 >>> ((2 : Int32).toUInt32 &&& Int32.toUInt32 31)).toInt32) &&& 858993459)) + (((((xa - (((xa.toUInt32 >>> ((1 : Int32).toUInt32 &&& Int32.toUInt32 31)).toInt32) &&& 1431655765)) &&& 858993459) + ((((xa - (((xa.toUInt32 >>> ((1 : Int32).toUInt32 &&& Int32.toUInt32 31)).toInt32) &&& 1431655765)).toUInt32 >>> ((2 : Int32).toUInt32 &&& Int32.toUInt32 31)).toInt32) &&& 858993459)).toUInt32 >>> ((4 : Int32).toUInt32 &&& Int32.toUInt32 31)).toInt32)) &&& 252645135).toUInt32 >>> ((8 : Int32).toUInt32 &&& Int32.toUInt32 31)).toInt32)).toUInt32 >>> ((16 : Int32).toUInt32 &&& Int32.toUInt32 31)).toInt32)) &&& 63
set_option maxRecDepth 100000 in
theorem bcx_ok : ∀ F, F < 1024 → bcx (nI F) = nI (sCnt (fun k => F.testBit k) 10) := by decide +kernel
/-- the numbers that count tells -/
def P6 (v : xS) (k : Nat) : Bool := decide (0 ≤ (v.1 203 k).toInt)
def P7 (v : xS) (k : Nat) : Bool := decide (k < 4 ∧ 0 ≤ (v.1 206 k).toInt)
def P8 (v : xS) (k : Nat) : Bool := decide (k < 3 ∧ v.1 227 (920 * k) ≠ -9)
def P5 (D : xD) (k : Nat) : Bool := decide (k < db D ∧ sIs (dK D k) 1 = true)
theorem P5_dr (D : xD) : ∀ m, m ≤ db D → sCnt (P5 D) m = sDr D m
  | 0, _ => rfl
  | m + 1, h => by
    rw [sCnt, sDr, P5_dr D m (by omega)]
    unfold P5
    by_cases q : sIs (dK D m) 1 = true
    · rw [if_pos q, if_pos (decide_eq_true ⟨by omega, q⟩)]
    · rw [if_neg q, if_neg (by rw [decide_eq_true_eq]; exact fun w => q w.2)]
def tV (v : xS) (R : xR) (w : Nat) : Int32 :=
  if w = 0 then nI (dn (rD R)) else if w = 1 then nI (db (rD R)) else if w = 2 then nI (re R) else if w = 3 then (if dn (rD R) = 0 then 0 else nI (3 ^ db (rD R))) else if w = 4 then nI (sCnt (fun k => (dF (rD R)).testBit k) 10)
  else if w = 5 then nI (sCnt (P5 (rD R)) 6) else if w = 6 then nI (sCnt (P6 v) 6) else if w = 7 then nI (sCnt (P7 v) 6) else nI (sCnt (P8 v) 6)
section PCOUNT
variable {G : xG} {d : Nat} {z : xZ} {v : xS} {R : xR}
theorem ok_held {Q : Int32 → xS → Prop} {s p m : Nat} (B : Base z) (hs : xShelf z s p m) (hp : p ≤ 6) (hq : Q (nI (sCnt (fun r => decide (0 ≤ (v.1 (s + 2) r).toInt)) p)) v) : oX4_held G (d + 1) [.ref s] z v Q := by
  have ep : (Int32.ofNat p).toInt = p := nIi (by omega)
  have loop : ∀ (c r : Nat), r + c = p → aX4_held G (d + 1) 4 [some (.ref s), some (.int (nI (sCnt (fun r => decide (0 ≤ (v.1 (s + 2) r).toInt)) r))), some (.int (nI r))] [] z v Q := by
    intro c
    induction c with
    | zero =>
      intro r hr
      have : r = p := by omega
      subst this
      exact vc_X4_held_4 B hs (bt (by rw [i32le, ep, nIi (by omega)]; omega) hq)
    | succ c ih =>
      intro r hr
      have go := ih (r + 1) (by omega)
      rw [sCnt] at go
      refine vc_X4_held_4 B hs (bf (by rw [i32le, ep, nIi (by omega)]; omega) ⟨vpN (by omega) (by omega), ?_⟩)
      rw [clN (by omega), nI_1 r]
      refine ⟨fun q => ?_, fun q => ?_⟩
      · rw [i32lt, i32_0] at q
        rw [if_neg (by rw [decide_eq_true_eq]; omega), Nat.add_zero] at go
        exact go
      · rw [i32lt, i32_0] at q
        rw [if_pos (by rw [decide_eq_true_eq]; omega), ← nI_1] at go
        exact go
  exact vc_X4_held B hs (loop p 0 (by omega))
theorem ok_keptNow {Q : Int32 → xS → Prop} (B : Base z) (hq : Q (nI (sCnt (fun k => decide (v.1 101 k ≠ 0)) 3)) v) : oX5_keptNow G (d + 1) [.ref 0] z v Q := by
  have loop : ∀ (c r : Nat), r + c = 3 → aX5_keptNow G (d + 1) 4 [some (.ref 0), some (.int (nI (sCnt (fun k => decide (v.1 101 k ≠ 0)) r))), some (.int (nI r))] [] z v Q := by
    intro c
    induction c with
    | zero =>
      intro r hr
      have : r = 3 := by omega
      subst this
      exact vc_X5_keptNow_4 B (bt (by decide) hq)
    | succ c ih =>
      intro r hr
      have go := ih (r + 1) (by omega)
      rw [sCnt] at go
      refine vc_X5_keptNow_4 B (bf (by rw [i32le, i32_3, nIi (by omega)]; omega) ⟨vpN (by omega) (by omega), ?_⟩)
      rw [clN (by omega), nI_1 r]
      refine ⟨fun q => ?_, fun q => ?_⟩
      · rw [if_neg (by rw [decide_eq_true_eq]; exact fun w => w q), Nat.add_zero] at go
        exact go
      · rw [if_pos (by rw [decide_eq_true_eq]; exact q), ← nI_1] at go
        exact go
  exact vc_X5_keptNow B (loop 3 0 (by omega))
theorem om_sizeOf {Q : Int32 → xS → Prop} (B : Base z) {F : Nat} (hF : F < 1024) (hq : Q (nI (sCnt (fun k => F.testBit k) 10)) v) : oX6_sizeOf G (d + 1) [.int (nI F)] z v Q := by
  have loop : ∀ (c k : Nat), k + c = 10 → aX6_sizeOf G (d + 1) 4 [some (.int (nI F)), some (.int (nI (sCnt (fun k => F.testBit k) k))), some (.int (nI k))] [] z v Q := by
    intro c
    induction c with
    | zero =>
      intro k hk
      have : k = 10 := by omega
      subst this
      exact vc_X6_sizeOf_4 B (bt (by decide) hq)
    | succ c ih =>
      intro k hk
      have go := ih (k + 1) (by omega)
      rw [sCnt] at go
      refine vc_X6_sizeOf_4 B (bf (by rw [i32le, i32_10, nIi (by omega)]; omega) ?_)
      rw [bit01 F hF k (by omega), nI_1 k]
      by_cases q : F.testBit k = true
      · rw [if_pos q]
        rw [if_pos q, ← nI_1] at go
        exact go
      · rw [if_neg q, add0]
        rw [if_neg q, Nat.add_zero] at go
        exact go
  exact vc_X6_sizeOf B (loop 10 0 (by omega))
theorem om_tells {Q : Int32 → xS → Prop} (B : Base z) (I : I0R z v R) {w : Nat} (hw : w < 9) (hq : Q (tV v R w) v) : oX6_tells G (d + 4) [.ref 200, .int (nI w)] z v Q := by
  have hn := I.D.1
  have hb := I.D.2.1
  have L := I.LM
  obtain ⟨P, hP⟩ : ∃ P : Nat → Bool, P = fun k => if w = 5 then P5 (rD R) k else if w = 6 then P6 v k else if w = 7 then P7 v k else if w = 8 then P8 v k else false := ⟨_, rfl⟩
  have ne : ∀ c : Nat, c < 100 → c ≠ w → ¬ nI w = nI c := fun c hc hcw q => hcw (nIinj (by omega) (by omega) q).symm
  have loop : ∀ (c k : Nat), k + c = 6 → aX6_tells G (d + 4) 4 [some (.ref 200), some (.int (nI w)), some (.int (nI (sCnt P k))), some (.int (nI k))] [] z v Q := by
    intro c
    induction c with
    | zero =>
      intro k hk
      have : k = 6 := by omega
      subst this
      unfold tV at hq
      refine vc_X6_tells_4 B (bt (by decide) ⟨fun c => ?_, fun c => ?_, fun c => ?_, fun c => ?_, fun c => ?_, fun c => ?_⟩)
      · rw [nIi (by omega)] at c
        rw [if_neg (by omega), if_neg (by omega), if_neg (by omega), if_neg (by omega), if_neg (by omega)] at hq
        rw [hP]
        by_cases h5 : w = 5
        · rw [if_pos h5] at hq
          rw [show (fun k => if w = 5 then P5 (rD R) k else if w = 6 then P6 v k else if w = 7 then P7 v k else if w = 8 then P8 v k else false) = P5 (rD R) from funext fun k => if_pos h5]
          exact hq
        rw [if_neg h5] at hq
        by_cases h6 : w = 6
        · rw [if_pos h6] at hq
          rw [show (fun k => if w = 5 then P5 (rD R) k else if w = 6 then P6 v k else if w = 7 then P7 v k else if w = 8 then P8 v k else false) = P6 v from funext fun k => by rw [if_neg h5, if_pos h6]]
          exact hq
        rw [if_neg h6] at hq
        by_cases h7 : w = 7
        · rw [if_pos h7] at hq
          rw [show (fun k => if w = 5 then P5 (rD R) k else if w = 6 then P6 v k else if w = 7 then P7 v k else if w = 8 then P8 v k else false) = P7 v from funext fun k => by rw [if_neg h5, if_neg h6, if_pos h7]]
          exact hq
        rw [if_neg h7] at hq
        have h8 : w = 8 := by omega
        rw [show (fun k => if w = 5 then P5 (rD R) k else if w = 6 then P6 v k else if w = 7 then P7 v k else if w = 8 then P8 v k else false) = P8 v from funext fun k => by rw [if_neg h5, if_neg h6, if_neg h7, if_pos h8]]
        exact hq
      · have : w = 0 := nIinj (b := 0) (by omega) (by omega) c
        rw [if_pos this] at hq
        rw [L.1]; exact hq
      · have : w = 1 := nIinj (b := 1) (by omega) (by omega) c
        rw [if_neg (by omega), if_pos this] at hq
        rw [L.2.1]; exact hq
      · have : w = 2 := nIinj (b := 2) (by omega) (by omega) c
        rw [if_neg (by omega), if_neg (by omega), if_pos this] at hq
        rw [I.E]; exact hq
      · have : w = 3 := nIinj (b := 3) (by omega) (by omega) c
        rw [if_neg (by omega), if_neg (by omega), if_neg (by omega), if_pos this] at hq
        rw [L.1]
        refine ⟨fun q => om_programs B L I.D ?_, fun q => ?_⟩
        · rw [if_neg (fun q2 => q (by rw [q2]; rfl))] at hq
          exact hq
        · rw [if_pos (nIinj (b := 0) (by omega) (by omega) q)] at hq
          exact hq
      · have : w = 4 := nIinj (b := 4) (by omega) (by omega) c
        rw [if_neg (by omega), if_neg (by omega), if_neg (by omega), if_neg (by omega), if_pos this] at hq
        rw [L.2.2.1]
        exact om_sizeOf B I.D.F hq
    | succ c ih =>
      intro k hk
      have go := ih (k + 1) (by omega)
      rw [sCnt] at go
      have g0 : P k = false → aX6_tells G (d + 4) 4 [some (.ref 200), some (.int (nI w)), some (.int (nI (sCnt P k))), some (.int (nI (k + 1)))] [] z v Q := fun q => by
        rw [if_neg (by rw [q]; decide), Nat.add_zero] at go
        exact go
      have g1 : P k = true → aX6_tells G (d + 4) 4 [some (.ref 200), some (.int (nI w)), some (.int (nI (sCnt P k + 1))), some (.int (nI (k + 1)))] [] z v Q := fun q => by
        rw [if_pos q] at go
        exact go
      refine vc_X6_tells_4 B (bf (by rw [i32le, i32_6, nIi (by omega)]; omega) ?_)
      rw [add0, nI_1, nI_1]
      have hPk : P k = if w = 5 then P5 (rD R) k else if w = 6 then P6 v k else if w = 7 then P7 v k else if w = 8 then P8 v k else false := by rw [hP]
      by_cases h5 : w = 5
      · rw [if_pos h5] at hPk
        subst h5
        refine nf rfl ⟨fun q => nt (by decide) (nt (by decide) (nt (by decide) (g0 ?_))), fun q => ?_⟩
        · rw [L.2.1, i32le, nIi (by omega), nIi (by omega)] at q
          rw [hPk]
          exact decide_eq_false (fun w => by omega)
        · rw [L.2.1, i32le, nIi (by omega), nIi (by omega)] at q
          refine om_isA (q := 1) B L I.D (by omega) (by decide) (fun q2 => nb1 (g1 ?_)) (fun q2 => nb0 (nt (by decide) (nt (by decide) (nt (by decide) (g0 ?_)))))
          · rw [hPk]; exact decide_eq_true ⟨by omega, q2⟩
          · rw [hPk]; exact decide_eq_false (fun w => by rw [q2] at w; exact absurd w.2 (by decide))
      rw [if_neg h5] at hPk
      by_cases h6 : w = 6
      · rw [if_pos h6] at hPk
        subst h6
        refine nt (by decide) (nf rfl ⟨vpN (by omega) (by omega), ?_⟩)
        rw [clN (by omega)]
        refine ⟨fun q => g1 ?_, fun q => nt (by decide) (nt (by decide) (g0 ?_))⟩
        · rw [i32le, i32_0] at q
          rw [hPk]; exact decide_eq_true q
        · rw [i32le, i32_0] at q
          rw [hPk]; exact decide_eq_false q
      rw [if_neg h6] at hPk
      by_cases h7 : w = 7
      · rw [if_pos h7] at hPk
        subst h7
        refine nt (by decide) (nt (by decide) (nf rfl ⟨fun q => nt (by decide) (g0 ?_), fun q => ?_⟩))
        · rw [i32le, show (4 : Int32).toInt = 4 by decide, nIi (by omega)] at q
          rw [hPk]; exact decide_eq_false (fun w => by omega)
        · rw [i32le, show (4 : Int32).toInt = 4 by decide, nIi (by omega)] at q
          rw [clN (by omega)]
          refine ⟨vpN (by omega) (by omega), fun q2 => g1 ?_, fun q2 => nt (by decide) (g0 ?_)⟩
          · rw [i32le, i32_0] at q2
            rw [hPk]; exact decide_eq_true ⟨by omega, q2⟩
          · rw [i32le, i32_0] at q2
            rw [hPk]; exact decide_eq_false (fun w => q2 w.2)
      rw [if_neg h7] at hPk
      by_cases h8 : w = 8
      · rw [if_pos h8] at hPk
        subst h8
        refine nt (by decide) (nt (by decide) (nt (by decide) (nf rfl ⟨fun q => g0 ?_, fun q => ?_⟩)))
        · rw [i32le, i32_3, nIi (by omega)] at q
          rw [hPk]; exact decide_eq_false (fun w => by omega)
        · rw [i32le, i32_3, nIi (by omega)] at q
          rw [e920, clN (by omega)]
          refine ⟨vpN (by omega) (by omega), fun q2 => g0 ?_, fun q2 => g1 ?_⟩
          · rw [hPk]; exact decide_eq_false (fun w => w.2 q2)
          · rw [hPk]; exact decide_eq_true ⟨by omega, q2⟩
      rw [if_neg h8] at hPk
      exact nt (ne 5 (by decide) (Ne.symm h5)) (nt (ne 6 (by decide) (Ne.symm h6)) (nt (ne 7 (by decide) (Ne.symm h7)) (nt (ne 8 (by decide) (Ne.symm h8)) (g0 hPk))))
  exact vc_X6_tells B (loop 6 0 (by omega))
theorem ok_count {Q : Int32 → xS → Prop} (B : Base z) (I : I0R z v R) {w : Nat} (hw : w < 9) (hq : Q (tV v R w) v) : oX5_count G (d + 4) [.ref 0, .int (nI w)] z v Q := by
  have hn := I.D.1
  have hb := I.D.2.1
  have L := I.LC
  unfold tV at hq
  refine vc_X5_count B ⟨fun c => ?_, fun c => ?_, fun c => ?_, fun c => ?_, fun c => ?_, fun c => ?_, fun c => ?_, fun c => ?_, fun c => ?_, fun c => ?_⟩
  · rw [nIi (by omega)] at c; omega
  · have : w = 0 := nIinj (b := 0) (by omega) (by omega) c
    rw [if_pos this] at hq
    rw [L.1]; exact hq
  · have : w = 1 := nIinj (b := 1) (by omega) (by omega) c
    rw [if_neg (by omega), if_pos this] at hq
    rw [L.2.1]; exact hq
  · have : w = 2 := nIinj (b := 2) (by omega) (by omega) c
    rw [if_neg (by omega), if_neg (by omega), if_pos this] at hq
    rw [I.e]; exact hq
  · have : w = 3 := nIinj (b := 3) (by omega) (by omega) c
    rw [if_neg (by omega), if_neg (by omega), if_neg (by omega), if_pos this] at hq
    rw [L.1]
    refine ⟨fun q => ok_programs B L I.D ?_, fun q => ?_⟩
    · rw [if_neg (fun q2 => q (by rw [q2]; rfl))] at hq
      exact hq
    · rw [if_pos (nIinj (b := 0) (by omega) (by omega) q)] at hq
      exact hq
  · have : w = 4 := nIinj (b := 4) (by omega) (by omega) c
    rw [if_neg (by omega), if_neg (by omega), if_neg (by omega), if_neg (by omega), if_pos this] at hq
    rw [L.2.2.1]
    refine vc_J6_bitCount_0f7a4 B ?_
    show Q (bcx (nI (dF (rD R)))) v
    rw [bcx_ok _ I.D.F]
    exact hq
  · have : w = 5 := nIinj (b := 5) (by omega) (by omega) c
    rw [if_neg (by omega), if_neg (by omega), if_neg (by omega), if_neg (by omega), if_neg (by omega), if_pos this] at hq
    refine ok_drums B L I.D ?_
    rw [← P5_dr (rD R) (db (rD R)) (Nat.le_refl _)]
    have := sCnt_stop (P := P5 (rD R)) (m := db (rD R)) (fun k hk => decide_eq_false (fun w => by omega)) (6 - db (rD R))
    rw [show db (rD R) + (6 - db (rD R)) = 6 by omega] at this
    rw [← this]
    exact hq
  · have : w = 6 := nIinj (b := 6) (by omega) (by omega) c
    rw [if_neg (by omega), if_neg (by omega), if_neg (by omega), if_neg (by omega), if_neg (by omega), if_neg (by omega), if_pos this] at hq
    refine ok_held B (bS_1 B) (by decide) ?_
    rw [sCnt_congr (P' := P6 v) (fun k hk => ?_)]
    · exact hq
    · rcases I.rows.2 k hk with ⟨c1, c2⟩ | ⟨n, hn, c1, c2, c3⟩
      · unfold P6
        rw [c1, c2, i32_m1, i32_m9]; decide
      · unfold P6
        rw [c1, c2]
  · have : w = 7 := nIinj (b := 7) (by omega) (by omega) c
    rw [if_neg (by omega), if_neg (by omega), if_neg (by omega), if_neg (by omega), if_neg (by omega), if_neg (by omega), if_neg (by omega), if_pos this] at hq
    refine ok_held B (bS_10 B) (by decide) ?_
    rw [sCnt_congr (P' := P7 v) (fun k hk => ?_)]
    · have := sCnt_stop (P := P7 v) (m := 4) (fun k hk => decide_eq_false (fun w => by omega)) 2
      rw [← this]
      exact hq
    · rcases I.texts.2 k hk with ⟨c1, c2⟩ | ⟨n, hn, c1, c2, c3⟩
      · unfold P7
        rw [c1, c2, i32_m1, i32_m9]; simp
      · unfold P7
        rw [c1, c2]
        simp [hk]
  · have : w = 8 := nIinj (b := 8) (by omega) (by omega) c
    rw [if_neg (by omega), if_neg (by omega), if_neg (by omega), if_neg (by omega), if_neg (by omega), if_neg (by omega), if_neg (by omega), if_neg (by omega)] at hq
    refine ok_keptNow B ?_
    rw [sCnt_congr (P' := P8 v) (fun k hk => ?_)]
    · have := sCnt_stop (P := P8 v) (m := 3) (fun k hk => decide_eq_false (fun w => by omega)) 3
      rw [← this]
      exact hq
    · unfold P8
      rcases I.2.2.2.2.1 k hk with ⟨c1, c2⟩ | ⟨c1, c2, R', hO, _, _, hK⟩
      · rw [c1, c2]; simp
      · have := hO.2.2.1
        rw [c1, hK.1.1, decide_eq_true (by decide), decide_eq_true ⟨hk, nI_ne9 (by omega)⟩]
theorem pr_count (B : Base z) (h : InvR z v R) {x : Int32} : oX5_count G (d + 16) [.ref 0, .int x] z v (fun r v1 => oX6_count G (d + 16) [.ref 200, .int x] z v1 (fun r' v2 => Pr z r r' v2)) := by
  have I := h.1
  have i8 : (8 : Int32).toInt = 8 := by decide
  by_cases c : 0 ≤ x.toInt ∧ x.toInt ≤ 8
  · obtain ⟨w, ew, ew2, _⟩ := i32nat c.1
    subst ew
    refine ok_count B I (by omega) (vc_X6_count B (om_in B (fun _ _ => br1 (om_tells B I (by omega) (Pr.mk rfl h))) (fun a => absurd ⟨by rw [i32_0]; omega, by rw [i8]; omega⟩ a)))
  · have mbad : oX6_count G (d + 16) [.ref 200, .int x] z v (fun r' v2 => Pr z (-1) r' v2) :=
      vc_X6_count B (om_in B (fun a b => absurd ⟨by rw [i32_0] at a; exact a, by rw [i8] at b; exact b⟩ c) (fun _ => br0 (Pr.mk rfl h)))
    have no : ∀ k : Nat, k ≤ 8 → x = nI k → False := fun k hk e => c (by rw [e, nIi (by omega)]; omega)
    exact vc_X5_count B ⟨fun _ => mbad, fun e => (no 0 (by decide) e).elim, fun e => (no 1 (by decide) e).elim, fun e => (no 2 (by decide) e).elim, fun e => (no 3 (by decide) e).elim, fun e => (no 4 (by decide) e).elim, fun e => (no 5 (by decide) e).elim, fun e => (no 6 (by decide) e).elim, fun e => (no 7 (by decide) e).elim, fun e => (no 8 (by decide) e).elim⟩
end PCOUNT
