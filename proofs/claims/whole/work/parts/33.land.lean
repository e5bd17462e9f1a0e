/-! Land: contracts of what is asked of it and of its tunes -/
theorem shl1 : ∀ n, n < 11 → (1 : Int32) <<< (nI n &&& 31) = nI (2 ^ n) := by decide +kernel
theorem bit1 : ∀ F, F < 1024 → ∀ j, j < 10 → decide (((nI F >>> (nI j &&& 31)) &&& 1) = 1) = F.testBit j := by decide +kernel
theorem is_ok : ∀ k, k < 6 → ∀ q, q < 6 → 1 ≤ q → decide ((((xSv 1).getD (nI k).toNatClampNeg 0 >>> (nI q &&& 31)) &&& 1) = 1) = decide (k = q ∨ (q = 1 ∧ k = 4) ∨ (q = 2 ∧ k = 5)) := by decide +kernel
theorem least_ok : ∀ k, k < 6 → (xSv 3).getD (nI k).toNatClampNeg 0 = nI (sLeast k) := by decide +kernel
theorem most_ok : ∀ k, k < 6 → (xSv 2).getD (nI k).toNatClampNeg 0 = nI (sMost k) := by decide +kernel
theorem div3 {a : Nat} (h : a < 2147483648) : nI a / 3 = nI (a / 3) := pk_div h (by decide) (by decide)
theorem rem3 {a : Nat} (h : a < 2147483648) : nI a - nI a / 3 * 3 = nI (a % 3) := pk_rem h (by decide) (by decide)
def sIs (k q : Nat) : Bool := decide (k = q ∨ (q = 1 ∧ k = 4) ∨ (q = 2 ∧ k = 5))
def sHrd (D : xD) (i j : Nat) : Bool := decide (j ≠ dP D i ∧ (if j ≤ dP D i then dP D i - j else j - dP D i) ≤ sReach D i)
def sHs (D : xD) (i : Nat) : Nat → Int32
  | 0 => 0
  | m + 1 => if sHrd D i m = true then sHs D i m ||| (1 <<< (nI m &&& 31)) else sHs D i m
def sLow (D : xD) (i : Nat) (g : Nat → Nat) : Nat → Nat
  | 0 => 0
  | m + 1 => sLow D i g m + if sHrd D i m = true ∧ g m < 2 then 1 else 0
def sDr (D : xD) : Nat → Nat
  | 0 => 0
  | m + 1 => sDr D m + if sIs (dK D m) 1 = true then 1 else 0
def sTop (g : Nat → Nat) (x : Nat) : Nat → Nat
  | 0 => x
  | c + 1 => if g (sTop g x c) < g (x + c + 1) then x + c + 1 else sTop g x c
theorem sTop_in (g : Nat → Nat) (x : Nat) : ∀ c, x ≤ sTop g x c ∧ sTop g x c ≤ x + c
  | 0 => by simp [sTop]
  | c + 1 => by
    have := sTop_in g x c
    rw [sTop]
    split <;> omega
section LAND
variable {G : xG} {d : Nat} {z : xZ} {v : xS} {D : xD}
theorem ok_isSpot {Q : Int32 → xS → Prop} (B : Base z) (hL : LC v D) (hD : DB D) {x : Int32} (h1 : inR x (dn D) → Q 1 v) (h0 : ¬ inR x (dn D) → Q 0 v) : oX1_isSpot G (d + 1) [.ref 30, .int x] z v Q := by
  have e : (v.1 30 0).toInt = dn D := by rw [hL.1]; exact nIi (by have := hD.1; omega)
  refine vc_X1_isSpot B ⟨fun c => h0 ?_, fun c => ⟨fun c2 => h0 ?_, fun c2 => h1 ?_⟩⟩
  · rw [i32lt, i32_0] at c; unfold inR; omega
  · rw [i32le] at c2; unfold inR; omega
  · rw [i32lt, i32_0] at c; rw [i32le] at c2; unfold inR; omega
theorem ok_isBand {Q : Int32 → xS → Prop} (B : Base z) (hL : LC v D) (hD : DB D) {x : Int32} (h1 : inR x (db D) → Q 1 v) (h0 : ¬ inR x (db D) → Q 0 v) : oX1_isBand G (d + 1) [.ref 30, .int x] z v Q := by
  have e : (v.1 30 1).toInt = db D := by rw [hL.2.1]; exact nIi (by have := hD.2.1; omega)
  refine vc_X1_isBand B ⟨fun c => h0 ?_, fun c => ⟨fun c2 => h0 ?_, fun c2 => h1 ?_⟩⟩
  · rw [i32lt, i32_0] at c; unfold inR; omega
  · rw [i32le] at c2; unfold inR; omega
  · rw [i32lt, i32_0] at c; rw [i32le] at c2; unfold inR; omega
theorem ok_isBandN {Q : Int32 → xS → Prop} (B : Base z) (hL : LC v D) (hD : DB D) {i : Nat} (hi : i < db D) (hq : Q 1 v) : oX1_isBand G (d + 1) [.ref 30, .int (nI i)] z v Q :=
  ok_isBand B hL hD (fun _ => hq) (fun c => absurd (inR_nI hi (by have := hD.2.1; omega)) c)
theorem ok_isSpotN {Q : Int32 → xS → Prop} (B : Base z) (hL : LC v D) (hD : DB D) {i : Nat} (hi : i < dn D) (hq : Q 1 v) : oX1_isSpot G (d + 1) [.ref 30, .int (nI i)] z v Q :=
  ok_isSpot B hL hD (fun _ => hq) (fun c => absurd (inR_nI hi (by have := hD.1; omega)) c)
theorem pow3 {b : Nat} (h : b ≤ 3) : 3 ^ b ≤ 27 := by
  have h1 : 3 ^ b ≤ 3 ^ 3 := Nat.pow_le_pow_right (by decide) h
  exact h1
theorem ok_programs {Q : Int32 → xS → Prop} (B : Base z) (hL : LC v D) (hD : DB D) (hq : Q (nI (3 ^ db D)) v) : oX1_programs G (d + 1) [.ref 30] z v Q := by
  have hb := hD.2.1
  have e : (v.1 30 1).toInt = db D := by rw [hL.2.1]; exact nIi (by omega)
  have loop : ∀ (c i : Nat), i ≤ db D → db D - i = c → aX1_programs G (d + 1) 4 [some (.ref 30), some (.int (nI (3 ^ i))), some (.int (nI i))] [] z v Q := by
    intro c
    induction c with
    | zero =>
      intro i hi hc
      have ei : i = db D := by omega
      subst ei
      exact vc_X1_programs_4 B (bt (by rw [i32le, e, nIi (by omega)]; omega) hq)
    | succ c ih =>
      intro i hi hc
      refine vc_X1_programs_4 B (bf (by rw [i32le, e, nIi (by omega)]; omega) ?_)
      have := ih (i + 1) (by omega) (by omega)
      rw [Nat.pow_succ, ← pk_mul, ← nI_1 i] at this
      exact this
  exact vc_X1_programs B (loop (db D) 0 (Nat.zero_le _) (by omega))
theorem ok_isProgram {Q : Int32 → xS → Prop} (B : Base z) (hL : LC v D) (hD : DB D) {x : Int32} (h1 : inR x (3 ^ db D) → Q 1 v) (h0 : ¬ inR x (3 ^ db D) → Q 0 v) : oX1_isProgram G (d + 2) [.ref 30, .int x] z v Q := by
  have hp := pow3 hD.2.1
  have e := nIi (n := 3 ^ db D) (by omega)
  refine vc_X1_isProgram B ⟨fun c => h0 ?_, fun c => ok_programs B hL hD ⟨fun c2 => h0 ?_, fun c2 => h1 ?_⟩⟩
  · rw [i32lt, i32_0] at c; unfold inR; omega
  · rw [i32le] at c2; unfold inR; omega
  · rw [i32lt, i32_0] at c; rw [i32le] at c2; unfold inR; omega
theorem ok_isSpotSet {Q : Int32 → xS → Prop} (B : Base z) (hL : LC v D) (hD : DB D) {x : Int32} (h1 : inR x (2 ^ dn D) → Q 1 v) (h0 : ¬ inR x (2 ^ dn D) → Q 0 v) : oX1_isSpotSet G (d + 1) [.ref 30, .int x] z v Q := by
  have hp : 2 ^ dn D ≤ 1024 := by
    have h : 2 ^ dn D ≤ 2 ^ 10 := Nat.pow_le_pow_right (by decide) hD.1
    exact h
  have e : ((1 : Int32) <<< ((v.1 30 0) &&& 31)).toInt = (2 ^ dn D : Nat) := by rw [hL.1, shl1 _ (by have := hD.1; omega), nIi (by omega)]
  refine vc_X1_isSpotSet B ⟨fun c => h0 ?_, fun c => ⟨fun c2 => h0 ?_, fun c2 => h1 ?_⟩⟩
  · rw [i32lt, i32_0] at c; unfold inR; omega
  · rw [i32le] at c2; unfold inR; omega
  · rw [i32lt, i32_0] at c; rw [i32le] at c2; unfold inR; omega
theorem ok_isFrozen {Q : Int32 → xS → Prop} (B : Base z) (hL : LC v D) (hD : DB D) {j : Nat} (hj : j < dn D) (h1 : (dF D).testBit j = true → Q 1 v) (h0 : (dF D).testBit j = false → Q 0 v) : oX1_isFrozen G (d + 1) [.ref 30, .int (nI j)] z v Q := by
  have h := bit1 (dF D) hD.F j (by have := hD.1; omega)
  rw [← hL.2.2.1] at h
  refine vc_X1_isFrozen B ⟨fun c => h0 ?_, fun c => h1 ?_⟩
  · rw [← h]; exact decide_eq_false c
  · rw [← h]; exact decide_eq_true c
theorem ok_isOf {Q : Int32 → xS → Prop} (B : Base z) (hL : LC v D) (hD : DB D) {i q : Nat} (hi : i < db D) (hq1 : 1 ≤ q) (hq2 : q < 6) (h1 : sIs (dK D i) q = true → Q 1 v) (h0 : sIs (dK D i) q = false → Q 0 v) : oX1_isOf G (d + 2) [.ref 30, .int (nI i), .int (nI q)] z v Q := by
  have hb := hD.2.1
  obtain ⟨hk, -, -⟩ := hD.2.2.2 i hi
  have ek := (hL.2.2.2 i hi).1
  have h := is_ok (dK D i) hk q hq2 hq1
  refine vc_X1_isOf B (ok_isBandN B hL hD hi (br1 ⟨vpN (by omega) (by omega), ?_⟩))
  rw [clN (by omega), ek]
  refine ⟨vpN hk (by omega), fun c => h0 ?_, fun c => h1 ?_⟩
  · unfold sIs; rw [← h]; exact decide_eq_false c
  · unfold sIs; rw [← h]; exact decide_eq_true c
theorem ok_tuneOf {Q : Int32 → xS → Prop} (B : Base z) {p i : Nat} (hp : p < 2147483648) (hi : i ≤ 3) (hq : Q (nI (tn p i)) v) : oX1_tuneOf G (d + 1) [.ref 30, .int (nI p), .int (nI i)] z v Q := by
  have loop : ∀ (c j : Nat), j ≤ i → i - j = c → aX1_tuneOf G (d + 1) 5 [some (.ref 30), some (.int (nI p)), some (.int (nI i)), some (.int (nI (p / 3 ^ j))), some (.int (nI j))] [] z v Q := by
    intro c
    induction c with
    | zero =>
      intro j hj hc
      have ej : j = i := by omega
      subst ej
      refine vc_X1_tuneOf_5 B (bt (by rw [i32le]; omega) ?_)
      rw [rem3 (Nat.lt_of_le_of_lt (Nat.div_le_self _ _) hp)]
      exact hq
    | succ c ih =>
      intro j hj hc
      refine vc_X1_tuneOf_5 B (bf (by rw [i32le, nIi (by omega), nIi (by omega)]; omega) ?_)
      rw [div3 (Nat.lt_of_le_of_lt (Nat.div_le_self _ _) hp), Nat.div_div_eq_div_mul, ← Nat.pow_succ, nI_1]
      exact ih (j + 1) (by omega) (by omega)
  have h := loop i 0 (Nat.zero_le _) (by omega)
  rw [Nat.pow_zero, Nat.div_one] at h
  exact vc_X1_tuneOf B h
theorem ok_breathOf {Q : Int32 → xS → Prop} (B : Base z) (hL : LC v D) (hD : DB D) {p : Nat} (hp : p < 2147483648) (hq : Q (nI (eB D p)) v) : oX1_breathOf G (d + 2) [.ref 30, .int (nI p)] z v Q := by
  have hb := hD.2.1
  have e : (v.1 30 1).toInt = db D := by rw [hL.2.1]; exact nIi (by omega)
  have loop : ∀ (c i : Nat), i ≤ db D → db D - i = c → aX1_breathOf G (d + 2) 4 [some (.ref 30), some (.int (nI p)), some (.int (nI (sBr D p i))), some (.int (nI i))] [] z v Q := by
    intro c
    induction c with
    | zero =>
      intro i hi hc
      have ei : i = db D := by omega
      subst ei
      exact vc_X1_breathOf_4 B (bt (by rw [i32le, e, nIi (by omega)]; omega) hq)
    | succ c ih =>
      intro i hi hc
      refine vc_X1_breathOf_4 B (bf (by rw [i32le, e, nIi (by omega)]; omega) (ok_tuneOf B hp (by omega) ⟨fun c1 => ?_, fun c1 => ⟨vpN (by omega) (by omega), ?_⟩⟩))
      · have := ih (i + 1) (by omega) (by omega)
        have ht : tn p i = 0 := nIinj (by have := tn_lt p i; omega) (by omega) c1
        rw [sBr, if_pos ht, Nat.add_zero, ← nI_1] at this
        exact this
      · have := ih (i + 1) (by omega) (by omega)
        have ht : ¬ tn p i = 0 := fun q => c1 (by rw [q]; rfl)
        rw [sBr, if_neg ht, ← nI_1, ← nI_add] at this
        rw [clN (by omega), (hL.2.2.2 i (by omega)).2.2]
        exact this
  exact vc_X1_breathOf B (loop (db D) 0 (Nat.zero_le _) (by omega))
theorem ok_drums {Q : Int32 → xS → Prop} (B : Base z) (hL : LC v D) (hD : DB D) (hq : Q (nI (sDr D (db D))) v) : oX1_drums G (d + 3) [.ref 30] z v Q := by
  have hb := hD.2.1
  have e : (v.1 30 1).toInt = db D := by rw [hL.2.1]; exact nIi (by omega)
  have loop : ∀ (c i : Nat), i ≤ db D → db D - i = c → aX1_drums G (d + 3) 4 [some (.ref 30), some (.int (nI (sDr D i))), some (.int (nI i))] [] z v Q := by
    intro c
    induction c with
    | zero =>
      intro i hi hc
      have ei : i = db D := by omega
      subst ei
      exact vc_X1_drums_4 B (bt (by rw [i32le, e, nIi (by omega)]; omega) hq)
    | succ c ih =>
      intro i hi hc
      refine vc_X1_drums_4 B (bf (by rw [i32le, e, nIi (by omega)]; omega) (ok_isOf (q := 1) B hL hD (by omega) (by omega) (by omega) (fun c1 => br1 ?_) (fun c1 => br0 ?_)))
      · have := ih (i + 1) (by omega) (by omega)
        rw [sDr, if_pos c1, ← nI_1, ← nI_1] at this
        exact this
      · have := ih (i + 1) (by omega) (by omega)
        rw [sDr, if_neg (by rw [c1]; decide), Nat.add_zero, ← nI_1] at this
        exact this
  exact vc_X1_drums B (loop (db D) 0 (Nat.zero_le _) (by omega))
theorem ok_reach {Q : Int32 → xS → Prop} (B : Base z) (hL : LC v D) (hD : DB D) {i : Nat} (hi : i < db D) (hq : Q (nI (sReach D i)) v) : oX1_reach G (d + 2) [.ref 30, .int (nI i)] z v Q := by
  have hb := hD.2.1
  obtain ⟨hk, hP, hu1, hu2⟩ := hD.2.2.2 i hi
  obtain ⟨ek, eP, eu⟩ := hL.2.2.2 i hi
  refine vc_X1_reach B (ok_isBandN B hL hD hi (nb1 ⟨vpN (by omega) (by omega), ?_⟩))
  rw [clN (by omega), ek, eu]
  unfold sReach at hq
  refine ⟨fun c => ⟨vpN (by omega) (by omega), ?_⟩, fun c => ⟨vpN (by omega) (by omega), ?_⟩⟩
  · rw [if_neg (fun q => c (by rw [q]; rfl))] at hq
    exact hq
  · rw [if_pos (nIinj (b := 4) (by omega) (by omega) c), ← pk_mul] at hq
    exact hq
theorem sReach_le (hD : DB D) {i : Nat} (hi : i < db D) : 1 ≤ sReach D i ∧ sReach D i ≤ 18 := by
  obtain ⟨hk, hP, hu1, hu2⟩ := hD.2.2.2 i hi
  unfold sReach
  split <;> omega
theorem ok_isHeard {Q : Int32 → xS → Prop} (B : Base z) (hL : LC v D) (hD : DB D) {i j : Nat} (hi : i < db D) (hj : j < dn D) (h1 : sHrd D i j = true → Q 1 v) (h0 : sHrd D i j = false → Q 0 v) : oX1_isHeard G (d + 3) [.ref 30, .int (nI i), .int (nI j)] z v Q := by
  have hb := hD.2.1
  have hn := hD.1
  obtain ⟨hk, hP, hu1, hu2⟩ := hD.2.2.2 i hi
  obtain ⟨ek, eP, eu⟩ := hL.2.2.2 i hi
  have hr := sReach_le hD hi
  refine vc_X1_isHeard B (ok_isBandN B hL hD hi (br1 ⟨vpN (by omega) (by omega), ?_⟩))
  rw [clN (by omega), eP]
  have ej : (nI j).toInt = j := nIi (by omega)
  have eP2 : (nI (dP D i)).toInt = dP D i := nIi (by omega)
  have es : (nI j - nI (dP D i)).toInt = (j : Int) - dP D i := by rw [i32sub (by omega) (by omega)]; omega
  have en : (0 - (nI j - nI (dP D i))).toInt = (dP D i : Int) - j := by rw [i32sub (by rw [i32_0]; omega) (by rw [i32_0]; omega), i32_0]; omega
  refine ⟨fun c => h0 ?_, fun c => ⟨vpN (by omega) (by omega), ok_reach B hL hD hi ⟨fun c2 => h0 ?_, fun c2 => h1 ?_⟩⟩⟩
  · unfold sHrd
    exact decide_eq_false (fun q => q.1 (nIinj (by omega) (by omega) c))
  · unfold sHrd
    refine decide_eq_false (fun q => ?_)
    have q2 := q.2
    rw [i32lt, nIi (by omega)] at c2
    split at c2
    · rename_i hh; rw [i32le, i32_0, es] at hh; rw [es] at c2; split at q2 <;> omega
    · rename_i hh; rw [i32le, i32_0, es] at hh; rw [en] at c2; split at q2 <;> omega
  · unfold sHrd
    refine decide_eq_true ⟨fun q => c (by rw [q]), ?_⟩
    rw [i32lt, nIi (by omega)] at c2
    split at c2
    · rename_i hh; rw [i32le, i32_0, es] at hh; rw [es] at c2; split <;> omega
    · rename_i hh; rw [i32le, i32_0, es] at hh; rw [en] at c2; split <;> omega
theorem ok_heardOn {Q : Int32 → xS → Prop} (B : Base z) (hL : LC v D) (hD : DB D) {i : Nat} (hi : i < db D) (hq : Q (sHs D i (dn D)) v) : oX1_heardOn G (d + 4) [.ref 30, .int (nI i)] z v Q := by
  have hb := hD.2.1
  have hn := hD.1
  have e : (v.1 30 0).toInt = dn D := by rw [hL.1]; exact nIi (by omega)
  have loop : ∀ (c x : Nat), x ≤ dn D → dn D - x = c → aX1_heardOn G (d + 4) 4 [some (.ref 30), some (.int (nI i)), some (.int (sHs D i x)), some (.int (nI x))] [] z v Q := by
    intro c
    induction c with
    | zero =>
      intro x hx hc
      have ei : x = dn D := by omega
      subst ei
      exact vc_X1_heardOn_4 B (bt (by rw [i32le, e, nIi (by omega)]; omega) hq)
    | succ c ih =>
      intro x hx hc
      refine vc_X1_heardOn_4 B (bf (by rw [i32le, e, nIi (by omega)]; omega) (ok_isHeard B hL hD hi (by omega) (fun c1 => br1 ?_) (fun c1 => br0 ?_)))
      · have := ih (x + 1) (by omega) (by omega)
        rw [sHs, if_pos c1, ← nI_1] at this
        exact this
      · have := ih (x + 1) (by omega) (by omega)
        rw [sHs, if_neg (by rw [c1]; decide), ← nI_1] at this
        exact this
  exact vc_X1_heardOn B (loop (dn D) 0 (Nat.zero_le _) (by omega))
theorem ok_lowHeard {Q : Int32 → xS → Prop} (B : Base z) (hL : LC v D) (hD : DB D) {i : Nat} (hi : i < db D) {g : Nat → Nat} (hG : Gd v 31 D g) (hs : sm g (dn D) ≤ 90) (hq : Q (nI (sLow D i g (dn D))) v) : oX1_lowHeard G (d + 4) [.ref 30, .int (nI i)] z v Q := by
  have hb := hD.2.1
  have hn := hD.1
  have e : (v.1 30 0).toInt = dn D := by rw [hL.1]; exact nIi (by omega)
  have e2 : ((xSv 3).getD ((2 : Int32).toNatClampNeg) 0) = nI 2 := by decide +kernel
  have loop : ∀ (c x : Nat), x ≤ dn D → dn D - x = c → aX1_lowHeard G (d + 4) 4 [some (.ref 30), some (.int (nI i)), some (.int (nI (sLow D i g x))), some (.int (nI x))] [] z v Q := by
    intro c
    induction c with
    | zero =>
      intro x hx hc
      have ei : x = dn D := by omega
      subst ei
      exact vc_X1_lowHeard_4 B (bt (by rw [i32le, e, nIi (by omega)]; omega) hq)
    | succ c ih =>
      intro x hx hc
      have hgx := sm_le (g := g) (n := dn D) (x := x) (by omega)
      refine vc_X1_lowHeard_4 B (bf (by rw [i32le, e, nIi (by omega)]; omega) (ok_isHeard B hL hD hi (by omega) (fun c1 => br1 ⟨vpN (by omega) (by omega), ?_⟩) (fun c1 => br0 ?_)))
      · rw [clN (by omega), hG x (by omega), e2]
        refine ⟨fun c2 => ?_, fun c2 => ?_⟩
        · have := ih (x + 1) (by omega) (by omega)
          rw [i32le, nIi (by omega), nIi (by omega)] at c2
          rw [sLow, if_neg (by omega), Nat.add_zero, ← nI_1 x] at this
          exact this
        · have := ih (x + 1) (by omega) (by omega)
          rw [i32le, nIi (by omega), nIi (by omega)] at c2
          rw [sLow, if_pos ⟨c1, by omega⟩, ← nI_1 x, ← nI_1 (sLow D i g x)] at this
          exact this
      · have := ih (x + 1) (by omega) (by omega)
        rw [sLow, if_neg (by rw [c1]; intro q; exact absurd q.1 (by decide)), Nat.add_zero, ← nI_1 x] at this
        exact this
  exact vc_X1_lowHeard B (loop (dn D) 0 (Nat.zero_le _) (by omega))
theorem ok_allInches {Q : Int32 → xS → Prop} (B : Base z) (hL : LC v D) (hD : DB D) {g : Nat → Nat} (hG : Gd v 31 D g) (hq : Q (nI (sm g (dn D))) v) : oX1_allInches G (d + 1) [.ref 30] z v Q := by
  have hn := hD.1
  have e : (v.1 30 0).toInt = dn D := by rw [hL.1]; exact nIi (by omega)
  have loop : ∀ (c x : Nat), x ≤ dn D → dn D - x = c → aX1_allInches G (d + 1) 4 [some (.ref 30), some (.int (nI (sm g x))), some (.int (nI x))] [] z v Q := by
    intro c
    induction c with
    | zero =>
      intro x hx hc
      have ei : x = dn D := by omega
      subst ei
      exact vc_X1_allInches_4 B (bt (by rw [i32le, e, nIi (by omega)]; omega) hq)
    | succ c ih =>
      intro x hx hc
      refine vc_X1_allInches_4 B (bf (by rw [i32le, e, nIi (by omega)]; omega) ⟨vpN (by omega) (by omega), ?_⟩)
      have := ih (x + 1) (by omega) (by omega)
      rw [sm, ← nI_1 x, ← nI_add] at this
      rw [clN (by omega), hG x (by omega)]
      exact this
  exact vc_X1_allInches B (loop (dn D) 0 (Nat.zero_le _) (by omega))
theorem ok_firstHighest {Q : Int32 → xS → Prop} (B : Base z) (hL : LC v D) (hD : DB D) {a : Nat} (ha : xin z a 10 10) {g : Nat → Nat} (hG : Gd v a D g) (hs : sm g (dn D) ≤ 90) {x y : Nat} (hxy : x ≤ y) (hy : y < dn D) (hq : Q (nI (sTop g x (y - x))) v) : oX1_firstHighest G (d + 2) [.ref 30, .ref a, .int (nI x), .int (nI y)] z v Q := by
  have hn := hD.1
  have loop : ∀ (c k : Nat), k ≤ y - x → (y - x) - k = c → aX1_firstHighest G (d + 2) 8 [some (.ref 30), some (.ref a), some (.int (nI x)), some (.int (nI y)), some (.int (nI (sTop g x k))), some (.int (nI (x + k + 1)))] [] z v Q := by
    intro c
    induction c with
    | zero =>
      intro k hk hc
      have ek : k = y - x := by omega
      subst ek
      exact vc_X1_firstHighest_8 B ha (bt (by rw [i32lt, nIi (by omega), nIi (by omega)]; omega) hq)
    | succ c ih =>
      intro k hk hc
      have ht := sTop_in g x k
      have h1 := sm_le (g := g) (n := dn D) (x := x + k + 1) (by omega)
      have h2 := sm_le (g := g) (n := dn D) (x := sTop g x k) (by omega)
      have := ih (k + 1) (by omega) (by omega)
      rw [sTop, show x + (k + 1) + 1 = (x + k + 1) + 1 by omega, ← nI_1 (x + k + 1)] at this
      refine vc_X1_firstHighest_8 B ha (bf (by rw [i32lt, nIi (by omega), nIi (by omega)]; omega) (ok_isSpotN B hL hD (by omega) (br1 ⟨vpN (by omega) (by omega), vpN (by omega) (by omega), ?_⟩)))
      rw [clN (by omega), clN (by omega), hG _ (by omega), hG _ (by omega)]
      refine ⟨fun c2 => ?_, fun c2 => ?_⟩
      · rw [i32le, nIi (by omega), nIi (by omega)] at c2
        rw [if_neg (by omega)] at this
        exact this
      · rw [i32le, nIi (by omega), nIi (by omega)] at c2
        rw [if_pos (by omega)] at this
        exact this
  refine vc_X1_firstHighest B ha ?_
  have := loop (y - x) 0 (Nat.zero_le _) (by omega)
  rw [Nat.add_zero, ← nI_1 x] at this
  exact this
/-- 0 without SPOTS -/
def sHigh (n : Nat) (g : Nat → Nat) : Nat := if n = 0 then 0 else g (sTop g 0 (n - 1))
theorem ok_highestOf {Q : Int32 → xS → Prop} (B : Base z) (hL : LC v D) (hD : DB D) {a : Nat} (ha : xin z a 10 10) {g : Nat → Nat} (hG : Gd v a D g) (hs : sm g (dn D) ≤ 90) (hq : Q (nI (sHigh (dn D) g)) v) : oX1_highestOf G (d + 3) [.ref 30, .ref a] z v Q := by
  have hn := hD.1
  unfold sHigh at hq
  refine vc_X1_highestOf B ha ⟨fun c => ?_, fun c => ?_⟩
  · rw [hL.1] at c ⊢
    have h0 : dn D ≠ 0 := fun q => c (by rw [q]; rfl)
    have e1 : nI (dn D) - 1 = nI (dn D - 1) := by
      have := nI_pred (dn D - 1)
      rwa [show dn D - 1 + 1 = dn D by omega] at this
    have ht := sTop_in g 0 (dn D - 1)
    rw [e1]
    refine ok_firstHighest (x := 0) B hL hD ha hG hs (Nat.zero_le _) (by omega) ⟨vpN (by rw [Nat.sub_zero]; omega) (by omega), ?_⟩
    rw [Nat.sub_zero, clN (by omega), hG _ (by omega)]
    rw [if_neg h0] at hq
    exact hq
  · rw [hL.1] at c
    rw [if_pos (nIinj (b := 0) (by omega) (by omega) c)] at hq
    exact hq
theorem ok_inchesFrom {Q : Int32 → xS → Prop} (B : Base z) (hL : LC v D) (hD : DB D) {i x h : Nat} (hi : i < db D) (hx : x < dn D) (hh : h < 1000) (hq : Q (nI (sInch D i x h)) v) : oX1_inchesFrom G (d + 1) [.ref 30, .int (nI i), .int (nI x), .int (nI h)] z v Q := by
  have hb := hD.2.1
  have hn := hD.1
  obtain ⟨hk, hP, hu1, hu2⟩ := hD.2.2.2 i hi
  obtain ⟨ek, eP, eu⟩ := hL.2.2.2 i hi
  have hbit := bit1 (dF D) hD.F x (by omega)
  rw [← hL.2.2.1] at hbit
  have hv := vpN (j := i) (n := 3) (by omega) (by omega)
  have hv6 := vpN (j := dK D i) (n := 6) hk (by omega)
  have hl : sLeast (dK D i) ≤ 2 := by unfold sLeast; split <;> omega
  have hm : sMost (dK D i) ≤ 2 := by unfold sMost; split <;> omega
  unfold sInch at hq
  refine vc_X1_inchesFrom B ⟨hv, ?_⟩
  rw [clN (by omega), ek, eP, least_ok _ hk, most_ok _ hk]
  have fin : (dF D).testBit x = false → ¬ (dK D i = 3 ∧ x < dP D i) → vp_in (nI (dK D i)) 6 ∧ (nI (sLeast (dK D i)) ≤ nI h → vp_in (nI (dK D i)) 6 ∧ (nI (sMost (dK D i)) ≤ nI h → vp_in (nI (dK D i)) 6 ∧ Q (nI (sMost (dK D i))) v) ∧ (¬ nI (sMost (dK D i)) ≤ nI h → Q (nI h) v)) ∧ (¬ nI (sLeast (dK D i)) ≤ nI h → Q 0 v) := by
    intro f1 f2
    refine ⟨hv6, fun c => ⟨hv6, fun c2 => ⟨hv6, ?_⟩, fun c2 => ?_⟩, fun c => ?_⟩
    · rw [i32le, nIi (by omega), nIi (by omega)] at c c2
      rw [if_neg (by rw [f1]; rintro (q | q | q); exact absurd q (by decide); exact f2 q; omega), if_neg (by omega)] at hq
      exact hq
    · rw [i32le, nIi (by omega), nIi (by omega)] at c c2
      rw [if_neg (by rw [f1]; rintro (q | q | q); exact absurd q (by decide); exact f2 q; omega), if_pos (by omega)] at hq
      exact hq
    · rw [i32le, nIi (by omega), nIi (by omega)] at c
      rw [if_pos (Or.inr (Or.inr (by omega)))] at hq
      exact hq
  refine ⟨fun c => ?_, fun c => ⟨fun c3 => ?_, fun c3 => ⟨hv, fun c4 => ?_, fun c4 => ?_⟩⟩⟩
  · rw [if_pos (Or.inl (by rw [← hbit]; exact decide_eq_true c))] at hq
    exact hq
  · exact fin (by rw [← hbit]; exact decide_eq_false c) (fun q => c3 (by rw [q.1]; rfl))
  · rw [i32le, nIi (by omega), nIi (by omega)] at c4
    exact fin (by rw [← hbit]; exact decide_eq_false c) (fun q => by omega)
  · rw [i32le, nIi (by omega), nIi (by omega)] at c4
    rw [if_pos (Or.inr (Or.inl ⟨nIinj (b := 3) (by omega) (by omega) c3, by omega⟩))] at hq
    exact hq
end LAND
