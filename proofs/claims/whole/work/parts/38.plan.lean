/-! Plan: the class's search -/
theorem tk_le (D : xD) (i : Nat) (y : Int) : tk D i y ≤ 2 := by
  unfold tk
  split
  · exact (sInch_le D i _ 2).2
  · omega
theorem sTk_le (D : xD) (x : Int) : ∀ m, sTk D x m ≤ 2 * m
  | 0 => by simp [sTk]
  | m + 1 => by
    have := sTk_le D x m
    have := tk_le D m x
    rw [sTk]; omega
theorem sGn_le (D : xD) (x : Nat) : ∀ m, sGn D x m ≤ 4 * m
  | 0 => by simp [sGn]
  | m + 1 => by
    have := sGn_le D x m
    have h1 := tk_le D m ((x : Int) - 1)
    have h2 := tk_le D m ((x : Int) + 1)
    rw [sGn]
    split
    · omega
    · split <;> omega
section PLAN
variable {G : xG} {d : Nat} {z : xZ} {v : xS} {D : xD}
theorem ok_mostTakenBy {Q : Int32 → xS → Prop} (B : Base z) (hL : LC v D) (hD : DB D) {i : Nat} (hi : i < db D) {x : Int32} (hq : Q (nI (tk D i x.toInt)) v) : oX2_mostTakenBy G (d + 4) [.ref 90, .int (nI i), .int x] z v Q := by
  have hn := hD.1
  unfold tk at hq
  refine vc_X2_mostTakenBy B (ok_isSpot B hL hD (fun h => br1 ?_) (fun h => br0 ?_))
  · obtain ⟨j, hj, e, -⟩ := inR_of h
    subst e
    have ej : (nI j).toInt = j := nIi (by omega)
    rw [ej] at hq
    refine ok_isHeard B hL hD hi hj (fun h1 => br1 (ok_inchesFrom (h := 2) B hL hD hi hj (by omega) ?_)) (fun h1 => br0 ?_)
    · rw [if_pos ⟨by omega, by omega, h1⟩] at hq
      exact hq
    · rw [if_neg (fun q => by rw [Int.toNat_natCast, h1] at q; exact absurd q.2.2 (by decide))] at hq
      exact hq
  · rw [if_neg (fun q => h ⟨q.1, q.2.1⟩)] at hq
    exact hq
theorem ok_mostTakenFrom {Q : Int32 → xS → Prop} (B : Base z) (hL : LC v D) (hD : DB D) {x : Nat} (hx : x < dn D) (hq : Q (nI (sTk D x (db D))) v) : oX2_mostTakenFrom G (d + 5) [.ref 90, .int (nI x)] z v Q := by
  have hn := hD.1
  have hb := hD.2.1
  have ex : (nI x).toInt = x := nIi (by omega)
  have e : (v.1 30 1).toInt = db D := by rw [hL.2.1]; exact nIi (by omega)
  have loop : ∀ (c i : Nat), i ≤ db D → db D - i = c → aX2_mostTakenFrom G (d + 5) 4 [some (.ref 90), some (.int (nI x)), some (.int (nI (sTk D x i))), some (.int (nI i))] [] z v Q := by
    intro c
    induction c with
    | zero =>
      intro i hi hc
      have ei : i = db D := by omega
      subst ei
      exact vc_X2_mostTakenFrom_4 B (bt (by rw [i32le, e, nIi (by omega)]; omega) hq)
    | succ c ih =>
      intro i hi hc
      refine vc_X2_mostTakenFrom_4 B (bf (by rw [i32le, e, nIi (by omega)]; omega) (ok_mostTakenBy B hL hD (by omega) ?_))
      rw [ex, nI_add, nI_1]
      exact ih (i + 1) (by omega) (by omega)
  exact vc_X2_mostTakenFrom B (loop (db D) 0 (Nat.zero_le _) (by omega))
theorem ok_mostGainedBy {Q : Int32 → xS → Prop} (B : Base z) (hL : LC v D) (hD : DB D) {x : Nat} (hx : x < dn D) (hq : Q (nI (sGn D x (db D))) v) : oX2_mostGainedBy G (d + 5) [.ref 90, .int (nI x)] z v Q := by
  have hn := hD.1
  have hb := hD.2.1
  have e1 : (nI x - 1).toInt = (x : Int) - 1 := by
    rw [i32sub (by rw [nIi (by omega), show (1 : Int32).toInt = 1 by decide]; omega) (by rw [nIi (by omega), show (1 : Int32).toInt = 1 by decide]; omega), nIi (by omega), show (1 : Int32).toInt = 1 by decide]
  have e2 : (nI x + 1).toInt = (x : Int) + 1 := by rw [nI_1, nIi (by omega)]; omega
  have e : (v.1 30 1).toInt = db D := by rw [hL.2.1]; exact nIi (by omega)
  have loop : ∀ (c i : Nat), i ≤ db D → db D - i = c → aX2_mostGainedBy G (d + 5) 4 [some (.ref 90), some (.int (nI x)), some (.int (nI (sGn D x i))), some (.int (nI i)), none, none] [] z v Q := by
    intro c
    induction c with
    | zero =>
      intro i hi hc
      have ei : i = db D := by omega
      subst ei
      exact vc_X2_mostGainedBy_4 B (bt (by rw [i32le, e, nIi (by omega)]; omega) hq)
    | succ c ih =>
      intro i hi hc
      have h9 := ih (i + 1) (by omega) (by omega)
      have t1 := tk_le D i ((x : Int) - 1)
      have t2 := tk_le D i ((x : Int) + 1)
      have hP := (hD.2.2.2 i (by omega)).2.1
      refine vc_X2_mostGainedBy_4 B (bf (by rw [i32le, e, nIi (by omega)]; omega) (ok_mostTakenBy B hL hD (by omega) (ok_mostTakenBy B hL hD (by omega) ⟨vpN (by omega) (by omega), ?_⟩)))
      rw [e1, e2, clN (by omega), (hL.2.2.2 i (by omega)).2.1, nI_1, nI_add, nI_add]
      rw [sGn] at h9
      refine ⟨fun c1 => ?_, fun c1 => ?_⟩
      · rw [if_neg (fun q => c1 (by rw [q]))] at h9
        by_cases hlt : tk D i ((x : Int) - 1) < tk D i ((x : Int) + 1)
        · rw [if_pos (by rw [i32lt, nIi (by omega), nIi (by omega)]; omega), nI_add]
          rw [if_pos hlt] at h9
          exact h9
        · rw [if_neg (by rw [i32lt, nIi (by omega), nIi (by omega)]; omega), nI_add]
          rw [if_neg hlt] at h9
          exact h9
      · rw [if_pos (nIinj (by omega) (by omega) c1)] at h9
        exact h9
  exact vc_X2_mostGainedBy B (loop (db D) 0 (Nat.zero_le _) (by omega))
/-- the plan's goal: a set flat; a spot high -/
def PF (v : xS) (D : xD) (F : Nat) : Prop := v.1 90 7 = 1 ∧ v.1 90 8 = nI F ∧ ∀ x, x < dn D → v.1 98 x = nI (sTk D x (db D))
def PH (v : xS) (D : xD) (x val : Nat) : Prop := v.1 90 7 = 0 ∧ v.1 90 9 = nI x ∧ v.1 90 10 = nI val ∧ v.1 90 11 = nI (sGn D x (db D))
def gF (D : xD) (F : Nat) (g : Nat → Nat) : Bool := decide (∀ x, x < dn D → F.testBit x = true → g x = 0)
def gH (x val : Nat) (g : Nat → Nat) : Bool := decide (val ≤ g x)
def wF (D : xD) (F m : Nat) (g : Nat → Nat) : Bool := decide (∀ x, x < dn D → F.testBit x = true → g x ≤ sTk D x (db D) * m)
def wH (D : xD) (x val m : Nat) (g : Nat → Nat) : Bool := decide (val ≤ g x + sGn D x (db D) * m)
theorem wF_0 (D : xD) (F : Nat) (g : Nat → Nat) : wF D F 0 g = gF D F g := by
  unfold wF gF
  simp
theorem wH_0 (D : xD) (x val : Nat) (g : Nat → Nat) : wH D x val 0 g = gH x val g := by
  unfold wH gH
  simp
theorem wF_ok (D : xD) (F : Nat) (l : List Nat) (g : Nat → Nat) (h : gF D F (sGo D l g) = true) : wF D F l.length g = true := by
  unfold gF at h
  unfold wF
  have h := of_decide_eq_true h
  refine decide_eq_true (fun x hx hb => ?_)
  have h1 := sGo_loss (D := D) x hx l g
  rw [h x hx hb] at h1
  omega
theorem wH_ok (D : xD) (x val : Nat) (l : List Nat) (g : Nat → Nat) (h : gH x val (sGo D l g) = true) : wH D x val l.length g = true := by
  unfold gH at h
  unfold wH
  have h := of_decide_eq_true h
  have h1 := sGo_gain (D := D) x l g
  exact decide_eq_true (by omega)
theorem ok_aimFlat {Q : xS → Prop} (B : Base z) (hL : LC v D) (hD : DB D) {F : Nat} (hq : ∀ v1, Same [90, 98] v v1 → PF v1 D F → Q v1) : oX2_aimFlat G (d + 6) [.ref 90, .int (nI F)] z v Q := by
  have hn := hD.1
  have loop : ∀ (c x : Nat) (v1 : xS), x ≤ dn D → dn D - x = c → Same [90, 98] v v1 → v1.1 90 7 = 1 → v1.1 90 8 = nI F → (∀ y, y < x → v1.1 98 y = nI (sTk D y (db D))) → aX2_aimFlat G (d + 6) 12 [some (.ref 90), some (.int (nI F)), some (.int (nI x))] [] z v1 Q := by
    intro c
    induction c with
    | zero =>
      intro x v1 hx hc hS h7 h8 h98
      have hL1 : LC v1 D := hL.keep hS (by decide) (by decide) (by decide) (by decide)
      have ei : x = dn D := by omega
      subst ei
      exact vc_X2_aimFlat_12 B (bt (by rw [hL1.1, i32le]; omega) (hq v1 hS ⟨h7, h8, h98⟩))
    | succ c ih =>
      intro x v1 hx hc hS h7 h8 h98
      have hL1 : LC v1 D := hL.keep hS (by decide) (by decide) (by decide) (by decide)
      refine vc_X2_aimFlat_12 B (bf (by rw [hL1.1, i32le, nIi (by omega), nIi (by omega)]; omega) (ok_mostTakenFrom B hL1 hD (by omega) ⟨vpN (by omega) (by omega), fun v4 e4 => ?_⟩))
      rw [clN (by omega)] at e4
      subst e4
      rw [nI_1]
      refine ih (x + 1) _ (by omega) (by omega) (hS.wV (by simp)) (by rw [wV_ne (by decide)]; exact h7) (by rw [wV_ne (by decide)]; exact h8) (fun y hy => ?_)
      by_cases hyx : y = x
      · subst hyx; rw [wV_at]
      · rw [wV_other _ _ _ _ _ hyx]; exact h98 y (by omega)
  refine vc_X2_aimFlat B (fun v1 e1 v2 e2 => ?_)
  subst e1
  subst e2
  exact loop (dn D) 0 _ (Nat.zero_le _) (by omega) (((Same.rf _ _).wV (by simp)).wV (by simp)) (by rw [wV_other _ _ _ _ _ (by decide), wV_at]) (by rw [wV_at]) (fun y h => absurd h (Nat.not_lt_zero _))
theorem ok_aimHigh {Q : xS → Prop} (B : Base z) (hL : LC v D) (hD : DB D) {x val : Nat} (hx : x < dn D) (hq : ∀ v1, Same [90] v v1 → PH v1 D x val → Q v1) : oX2_aimHigh G (d + 6) [.ref 90, .int (nI x), .int (nI val)] z v Q := by
  refine vc_X2_aimHigh B (fun v1 e1 v2 e2 v3 e3 => ?_)
  have hS3 : Same [90] v v3 := by rw [e3, e2, e1]; exact ((((Same.rf _ _).wV (by simp)).wV (by simp)).wV (by simp))
  have hL3 : LC v3 D := hL.keep hS3 (by decide) (by decide) (by decide) (by decide)
  refine ok_mostGainedBy B hL3 hD hx (fun v6 e6 => ?_)
  subst e6
  refine hq _ (hS3.wV (by simp)) ⟨?_, ?_, ?_, wV_at _ _ _ _⟩
  · rw [wV_other _ _ _ _ _ (by decide), e3, wV_other _ _ _ _ _ (by decide), e2, wV_other _ _ _ _ _ (by decide), e1, wV_at]
  · rw [wV_other _ _ _ _ _ (by decide), e3, wV_other _ _ _ _ _ (by decide), e2, wV_at]
  · rw [wV_other _ _ _ _ _ (by decide), e3, wV_at]
theorem ok_withinF {Q : Int32 → xS → Prop} (B : Base z) (hL : LC v D) (hD : DB D) {F : Nat} (hF : F < 2 ^ dn D) (hP : PF v D F) {a : Nat} (ha : xin z a 10 10) {g : Nat → Nat} (hG : Gd v a D g) (hs : sm g (dn D) ≤ 90) {m : Nat} (hm : m ≤ 3) (h1 : wF D F m g = true → Q 1 v) (h0 : wF D F m g = false → Q 0 v) : oX2_isWithinReach G (d + 1) [.ref 90, .ref a, .int (nI m)] z v Q := by
  have hn := hD.1
  have hb := hD.2.1
  have hF2 : F < 1024 := Nat.lt_of_lt_of_le hF (by
    have h : 2 ^ dn D ≤ 2 ^ 10 := Nat.pow_le_pow_right (by decide) hn
    exact h)
  have loop : ∀ (c x : Nat), x ≤ dn D → dn D - x = c → (∀ y, y < x → F.testBit y = true → g y ≤ sTk D y (db D) * m) → aX2_isWithinReach G (d + 1) 35 [some (.ref 90), some (.ref a), some (.int (nI m)), some (.int (nI x))] [] z v Q := by
    intro c
    induction c with
    | zero =>
      intro x hx hc hy
      exact vc_X2_isWithinReach_35 B ha (bt (by rw [hL.1, i32le, nIi (by omega), nIi (by omega)]; omega) (h1 (decide_eq_true (fun y h hb => hy y (by omega) hb))))
    | succ c ih =>
      intro x hx hc hy
      have hbit := bit1 F hF2 x (by omega)
      have v10 := vpN (j := x) (n := 10) (by omega) (by omega)
      have hgx := sm_le (g := g) (n := dn D) (x := x) (by omega)
      have ht := sTk_le D (x : Int) (db D)
      have hmul : sTk D x (db D) * m ≤ 6 * 3 := Nat.mul_le_mul (by omega) hm
      refine vc_X2_isWithinReach_35 B ha (bf (by rw [hL.1, i32le, nIi (by omega), nIi (by omega)]; omega) ?_)
      rw [hP.2.1, nI_1]
      refine ⟨fun c1 => ih (x + 1) (by omega) (by omega) (fun y h hb2 => ?_), fun c1 => ⟨v10, v10, ?_⟩⟩
      · by_cases hyx : y = x
        · subst hyx
          rw [← hbit] at hb2
          exact absurd (of_decide_eq_true hb2) c1
        · exact hy y (by omega) hb2
      · rw [clN (by omega), hG x (by omega), hP.2.2 x (by omega), pk_mul]
        refine ⟨fun c2 => ih (x + 1) (by omega) (by omega) (fun y h hb2 => ?_), fun c2 => h0 (decide_eq_false (fun q => ?_))⟩
        · by_cases hyx : y = x
          · subst hyx
            rw [i32le, nIi (by omega), nIi (by omega)] at c2
            omega
          · exact hy y (by omega) hb2
        · rw [i32le, nIi (by omega), nIi (by omega)] at c2
          have := q x (by omega) (by rw [← hbit]; exact decide_eq_true c1)
          omega
  refine vc_X2_isWithinReach B ha ⟨fun c => loop (dn D) 0 (Nat.zero_le _) (by omega) (fun y h => absurd h (Nat.not_lt_zero _)), fun c => ?_⟩
  rw [hP.1] at c
  exact absurd c (by decide)
theorem ok_withinH {Q : Int32 → xS → Prop} (B : Base z) (hL : LC v D) (hD : DB D) {x val : Nat} (hx : x < dn D) (hv : val ≤ 99) (hP : PH v D x val) {a : Nat} (ha : xin z a 10 10) {g : Nat → Nat} (hG : Gd v a D g) (hs : sm g (dn D) ≤ 90) {m : Nat} (hm : m ≤ 3) (h1 : wH D x val m g = true → Q 1 v) (h0 : wH D x val m g = false → Q 0 v) : oX2_isWithinReach G (d + 1) [.ref 90, .ref a, .int (nI m)] z v Q := by
  have hn := hD.1
  have hb := hD.2.1
  have hgx := sm_le (g := g) hx
  have ht := sGn_le D x (db D)
  have hmul : sGn D x (db D) * m ≤ 12 * 3 := Nat.mul_le_mul (by omega) hm
  refine vc_X2_isWithinReach B ha ⟨fun c => absurd hP.1 c, fun c => ?_⟩
  rw [hP.2.1, hP.2.2.1, hP.2.2.2, clN (by omega), hG x hx, pk_mul, nI_add]
  refine ⟨vpN (by omega) (by omega), fun c2 => h0 (decide_eq_false (fun q => ?_)), fun c2 => h1 (decide_eq_true ?_)⟩
  · rw [i32lt, nIi (by omega), nIi (by omega)] at c2; omega
  · rw [i32lt, nIi (by omega), nIi (by omega)] at c2; omega
theorem ok_isPlayedForUse {Q : Int32 → xS → Prop} (B : Base z) (hL : LC v D) (hD : DB D) {a : Nat} (ha : xgr z a) {g : Nat → Nat} (hG : Gd v a D g) (hs : sm g (dn D) ≤ 90) {p : Nat} (hp : p < 2147483648) (h1 : ∀ v1, sIdle D p g (db D) = false → Same [a] v v1 → Gd v1 a D (eG D p g) → Q 1 v1) (h0 : ∀ v1, sIdle D p g (db D) = true → Same [a] v v1 → Q 0 v1) : oX2_isPlayedForUse G (d + 4) [.ref 90, .ref a, .int (nI p)] z v Q := by
  have hb := hD.2.1
  have mono : ∀ m k, m ≤ k → sIdle D p g m = true → sIdle D p g k = true := by
    intro m k
    induction k with
    | zero => intro h1 h2; have : m = 0 := by omega
              rw [this] at h2; exact h2
    | succ k ih =>
      intro h1 h2
      by_cases hm : m = k + 1
      · rw [← hm]; exact h2
      · rw [sIdle, ih (by omega) h2]; rfl
  have loop : ∀ (c m : Nat) (v1 : xS), m ≤ db D → db D - m = c → Same [a] v v1 → Gd v1 a D (sEvG D p m g) → sIdle D p g m = false → aX2_isPlayedForUse G (d + 4) 5 [some (.ref 90), some (.ref a), some (.int (nI p)), some (.int (nI (p / 3 ^ m))), some (.int (nI m)), none] [] z v1 Q := by
    intro c
    induction c with
    | zero =>
      intro m v1 hm hc hS hG1 hI
      have em : m = db D := by omega
      subst em
      have hL1 := hL.gr ha hS
      exact vc_X2_isPlayedForUse_5 B ha.1 (bt (by rw [hL1.2.1, i32le]; omega) (h1 v1 hI hS hG1))
    | succ c ih =>
      intro m v1 hm hc hS hG1 hI
      have hL1 := hL.gr ha hS
      have hpm : p / 3 ^ m < 2147483648 := Nat.lt_of_le_of_lt (Nat.div_le_self _ _) hp
      refine vc_X2_isPlayedForUse_5 B ha.1 (bf (by rw [hL1.2.1, i32le, nIi (by omega), nIi (by omega)]; omega) ?_)
      rw [rem3 hpm, div3 hpm, Nat.div_div_eq_div_mul, ← Nat.pow_succ, nI_1]
      refine ⟨fun c1 => ?_, fun c1 => ok_playTune B hL1 hD ha hG1 (by rw [sEvG_sm]; exact hs) (by omega) (Nat.mod_lt _ (by decide)) (fun v2 hS2 hG2 => ⟨fun c2 => ?_, fun c2 => ?_⟩)⟩
      · have t0 : tn p m = 0 := nIinj (b := 0) (by have := tn_lt p m; unfold tn at this ⊢; omega) (by omega) c1
        refine ih (m + 1) v1 (by omega) (by omega) hS ?_ ?_
        · rw [sEvG, t0, sTune0]; exact hG1
        · rw [sIdle, hI, t0]; rfl
      · have t0 : tn p m ≠ 0 := fun q => c1 (by rw [show p / 3 ^ m % 3 = 0 from q]; rfl)
        refine ih (m + 1) v2 (by omega) (by omega) (hS.trans hS2) hG2 ?_
        rw [sIdle, hI, Bool.false_or, decide_eq_true t0, Bool.true_and]
        exact decide_eq_false (fun q => c2 (by rw [show (sTune D m (p / 3 ^ m % 3) (sEvG D p m g)).2 = 0 from q]; rfl))
      · have t0 : tn p m ≠ 0 := fun q => c1 (by rw [show p / 3 ^ m % 3 = 0 from q]; rfl)
        refine h0 v2 (mono (m + 1) _ (by omega) ?_) (hS.trans hS2)
        have htot := sTune_tot D hD m (tn p m) (sEvG D p m g)
        rw [sIdle, decide_eq_true t0, Bool.true_and]
        have : (sTune D m (tn p m) (sEvG D p m g)).2 = 0 := nIinj (b := 0) (by omega) (by omega) c2
        rw [decide_eq_true this, Bool.or_true]
  have h := loop (db D) 0 v (Nat.zero_le _) (by omega) (Same.rf _ _) hG rfl
  rw [Nat.pow_zero, Nat.div_one] at h
  exact vc_X2_isPlayedForUse B ha.1 h
end PLAN
