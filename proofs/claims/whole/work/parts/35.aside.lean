/-! Aside: evenings that are only thought of -/
theorem cl0 : (0 : Int32).toNatClampNeg = 0 := by decide
theorem cl3 : (3 : Int32).toNatClampNeg = 3 := by decide
theorem cl10 : (10 : Int32).toNatClampNeg = 10 := by decide
theorem cl60 : (60 : Int32).toNatClampNeg = 60 := by decide
theorem cl600 : (600 : Int32).toNatClampNeg = 600 := by decide
theorem cl180 : (180 : Int32).toNatClampNeg = 180 := by decide
theorem cpyN {f g : Nat → Int32} {n x : Nat} (h : x < n) : va_cpy f g 0 0 n x = f x := by rw [cpy_in (Nat.zero_le _) (by omega)]; congr 1; omega
def sRp (D : xD) (p : Nat) : Nat → (Nat → Nat) → (Nat → Nat)
  | 0, g => g
  | k + 1, g => eG D p (sRp D p k g)
def sRt (D : xD) (p : Nat) : Nat → (Nat → Nat) → Nat
  | 0, _ => 0
  | k + 1, g => sRt D p k g + eT D p (sRp D p k g)
theorem sRp_sm (D : xD) (p : Nat) : ∀ (k : Nat) (g : Nat → Nat), sm (sRp D p k g) (dn D) = sm g (dn D)
  | 0, _ => rfl
  | k + 1, g => by rw [sRp, sEvG_sm, sRp_sm D p k g]
def sEqv (D : xD) (g g' : Nat → Nat) : Bool := decide (∀ x, x < dn D → g x = g' x)
def sFind (P : Nat → Bool) : Nat → Nat → Option Nat
  | _, 0 => none
  | lo, c + 1 => if P lo = true then some lo else sFind P (lo + 1) c
def sRest (D : xD) (p : Nat) (g : Nat → Nat) : Option Nat := sFind (fun n => sEqv D (sRp D p n g) (sRp D p (n + 1) g)) 0 101
def sRound (D : xD) (p : Nat) (g : Nat → Nat) : Option Nat := sFind (fun n => sEqv D (sRp D p n g) g) 1 100
def sKp (D : xD) (g : Nat → Nat) (x : Nat) : Nat → Nat
  | 0 => 0
  | c + 1 => if eB D (sKp D g x c) < eB D (c + 1) ∧ eG D (c + 1) g x = g x then c + 1 else sKp D g x c
section ASIDE
variable {G : xG} {d : Nat} {z : xZ} {v : xS} {D : xD} {g : Nat → Nat}
theorem xgr71 (B : Base z) : xgr z 71 := ⟨bI_71 B, by decide, by decide, by decide, by decide⟩
theorem xgr72 (B : Base z) : xgr z 72 := ⟨bI_72 B, by decide, by decide, by decide, by decide⟩
theorem xgr31 (B : Base z) : xgr z 31 := ⟨bI_31 B, by decide, by decide, by decide, by decide⟩
theorem xgrT (B : Base z) {k : Nat} (hk : k < 7) : xgr z (74 + k) := ⟨(bA_73 B k hk).2, by omega, by omega, by omega, by omega⟩
theorem xgrS (B : Base z) {k : Nat} (hk : k < 4) : xgr z (92 + k) := ⟨(bA_91 B k hk).2, by omega, by omega, by omega, by omega⟩
theorem Gd.same {a : Nat} {S : List Nat} {v1 : xS} (h : Gd v a D g) (hs : Same S v v1) (ha : a ∉ S) : Gd v1 a D g := fun x hx => by rw [hs.2 a ha]; exact h x hx
/-- the ground of a row copied to another row -/
theorem Gd.cpy (hD : DB D) {a b : Nat} (h : Gd v a D g) : Gd (wA v b (va_cpy (v.1 a) (v.1 b) ((0 : Int32).toNatClampNeg) ((0 : Int32).toNatClampNeg) ((10 : Int32).toNatClampNeg))) b D g := by
  intro x hx
  rw [wA_row, if_pos rfl, cl0, cl10, cpyN (by have := hD.1; omega)]
  exact h x hx
theorem ok_startFromNow {Q : xS → Prop} (B : Base z) (hD : DB D) (hG : Gd v 31 D g) (hq : ∀ v1, Same [71] v v1 → Gd v1 71 D g → Q v1) : oX0_startFromNow G (d + 1) [.ref 70] z v Q :=
  vc_X0_startFromNow B (fun v1 e => by subst e; exact hq _ ((Same.rf _ _).wA (by simp)) (hG.cpy hD))
theorem ok_inchesByTune {Q : Int32 → xS → Prop} (B : Base z) (hL : LC v D) (hD : DB D) (hG : Gd v 31 D g) (hs : sm g (dn D) ≤ 90) {i t : Nat} (hi : i < db D) (ht : t < 3) (hq : ∀ v1, Same [71] v v1 → Q (nI (sTune D i t g).2) v1) : oX0_inchesByTune G (d + 4) [.ref 70, .int (nI i), .int (nI t)] z v Q :=
  vc_X0_inchesByTune B (ok_startFromNow B hD hG (fun v1 hS hG1 => ok_playTune B (hL.gr (xgr71 B) hS) hD (xgr71 B) hG1 hs hi ht (fun v2 hS2 _ => hq v2 (hS.trans hS2))))
theorem ok_repeat {Q : Int32 → xS → Prop} (B : Base z) (hL : LC v D) (hD : DB D) (hG : Gd v 31 D g) (hs : sm g (dn D) ≤ 90) {p n : Nat} (hp : p < 2147483648) (hn : n < 2147483648) (hq : ∀ v1, Same [71] v v1 → Gd v1 71 D (sRp D p n g) → Q (nI (sRt D p n g)) v1) : oX0_repeat G (d + 5) [.ref 70, .int (nI p), .int (nI n)] z v Q := by
  have loop : ∀ (c k : Nat) (v1 : xS), k ≤ n → n - k = c → Same [71] v v1 → Gd v1 71 D (sRp D p k g) → aX0_repeat G (d + 5) 9 [some (.ref 70), some (.int (nI p)), some (.int (nI n)), some (.int (nI (sRt D p k g))), some (.int (nI k))] [] z v1 Q := by
    intro c
    induction c with
    | zero =>
      intro k v1 hk hc hS hG1
      have ek : k = n := by omega
      subst ek
      exact vc_X0_repeat_9 B (bt (by rw [i32le]; omega) (hq v1 hS hG1))
    | succ c ih =>
      intro k v1 hk hc hS hG1
      refine vc_X0_repeat_9 B (bf (by rw [i32le, nIi (by omega), nIi (by omega)]; omega) (ok_playAside B (hL.gr (xgr71 B) hS) hD (xgr71 B) hG1 (by rw [sRp_sm]; exact hs) hp (fun v2 hS2 hG2 => ?_)))
      rw [nI_add, nI_1]
      exact ih (k + 1) v2 (by omega) (by omega) (hS.trans hS2) hG2
  exact vc_X0_repeat B (ok_startFromNow B hD hG (fun v1 hS hG1 => loop n 0 v1 (Nat.zero_le _) (by omega) hS hG1))
theorem ok_repeat1 {Q : Int32 → xS → Prop} (B : Base z) (hL : LC v D) (hD : DB D) (hG : Gd v 31 D g) (hs : sm g (dn D) ≤ 90) {p : Nat} (hp : p < 2147483648) (hq : ∀ r v1, Same [71] v v1 → Gd v1 71 D (eG D p g) → Q r v1) : oX0_repeat G (d + 5) [.ref 70, .int (nI p), .int 1] z v Q :=
  ok_repeat (n := 1) B hL hD hG hs hp (by decide) (fun v1 hS hG1 => hq _ v1 hS hG1)
theorem ok_playBehind {Q : xS → Prop} (B : Base z) (hL : LC v D) (hD : DB D) (hG : Gd v 71 D g) (hs : sm g (dn D) ≤ 90) {p : Nat} (hp : p < 2147483648) (hq : ∀ v1, Same [72] v v1 → Gd v1 72 D (eG D p g) → Q v1) : oX0_playBehind G (d + 5) [.ref 70, .int (nI p)] z v Q :=
  vc_X0_playBehind B (fun v1 e => by
    subst e
    have hS : Same [72] v (wA v 72 (va_cpy (v.1 71) (v.1 72) ((0 : Int32).toNatClampNeg) ((0 : Int32).toNatClampNeg) ((10 : Int32).toNatClampNeg))) := (Same.rf _ _).wA (by simp)
    exact ok_playAside B (hL.gr (xgr72 B) hS) hD (xgr72 B) (hG.cpy hD) hs hp (fun v2 hS2 hG2 => hq v2 (hS.trans hS2) hG2))
theorem ok_isSame {Q : Int32 → xS → Prop} (B : Base z) (hL : LC v D) (hD : DB D) {a b : Nat} (ha : xin z a 10 10) (hb : xin z b 10 10) {g g' : Nat → Nat} (hG : Gd v a D g) (hG' : Gd v b D g') (hs : sm g (dn D) ≤ 90) (hs' : sm g' (dn D) ≤ 90) (h1 : sEqv D g g' = true → Q 1 v) (h0 : sEqv D g g' = false → Q 0 v) : oX0_isSame G (d + 1) [.ref 70, .ref a, .ref b] z v Q := by
  have hn := hD.1
  have e : (v.1 30 0).toInt = dn D := by rw [hL.1]; exact nIi (by omega)
  have loop : ∀ (c x : Nat), x ≤ dn D → dn D - x = c → (∀ y, y < x → g y = g' y) → aX0_isSame G (d + 1) 2 [some (.ref 70), some (.ref a), some (.ref b), some (.int (nI x))] [] z v Q := by
    intro c
    induction c with
    | zero =>
      intro x hx hc hy
      exact vc_X0_isSame_2 B ha hb (bt (by rw [i32le, e, nIi (by omega)]; omega) (h1 (decide_eq_true (fun y h => hy y (by omega)))))
    | succ c ih =>
      intro x hx hc hy
      have v10 := vpN (j := x) (n := 10) (by omega) (by omega)
      have hg1 := sm_le (g := g) (n := dn D) (x := x) (by omega)
      have hg2 := sm_le (g := g') (n := dn D) (x := x) (by omega)
      refine vc_X0_isSame_2 B ha hb (bf (by rw [i32le, e, nIi (by omega)]; omega) ⟨v10, v10, ?_⟩)
      rw [clN (by omega), hG x (by omega), hG' x (by omega)]
      refine ⟨fun c1 => ?_, fun c1 => h0 (decide_eq_false (fun q => c1 (by rw [q x (by omega)])))⟩
      rw [nI_1]
      refine ih (x + 1) (by omega) (by omega) (fun y h => ?_)
      by_cases hyx : y = x
      · rw [hyx]; exact nIinj (by omega) (by omega) c1
      · exact hy y (by omega)
  exact vc_X0_isSame B ha hb (loop (dn D) 0 (Nat.zero_le _) (by omega) (fun y h => absurd h (Nat.not_lt_zero _)))
theorem ok_restsBehind {Q : Int32 → xS → Prop} (B : Base z) (hL : LC v D) (hD : DB D) (hG : Gd v 31 D g) (hs : sm g (dn D) ≤ 90) {p : Nat} (hp : p < 2147483648) (h0 : ∀ v1, Same [71, 72] v v1 → sRest D p g = none → Q (-9) v1) (h1 : ∀ v1 n, Same [71, 72] v v1 → sRest D p g = some n → n ≤ 100 → Gd v1 71 D (sRp D p n g) → Q (nI n) v1) : oX0_restsBehind G (d + 6) [.ref 70, .int (nI p)] z v Q := by
  have loop : ∀ (c n : Nat) (v1 : xS), n + c = 101 → Same [71, 72] v v1 → Gd v1 71 D (sRp D p n g) → sRest D p g = sFind (fun n => sEqv D (sRp D p n g) (sRp D p (n + 1) g)) n c → aX0_restsBehind G (d + 6) 6 [some (.ref 70), some (.int (nI p)), some (.int (nI n))] [] z v1 Q := by
    intro c
    induction c with
    | zero =>
      intro n v1 hn hS hG1 he
      have : n = 101 := by omega
      subst this
      exact vc_X0_restsBehind_6 B (bt (by decide) (h0 v1 hS he))
    | succ c ih =>
      intro n v1 hn hS hG1 he
      have hL1 : LC v1 D := hL.keep hS (by decide) (by decide) (by decide) (by decide)
      have hs1 : sm (sRp D p n g) (dn D) ≤ 90 := by rw [sRp_sm]; exact hs
      refine vc_X0_restsBehind_6 B (bf (by rw [i32lt, nIi (by omega)]; show ¬ (100 : Int32).toInt < _; rw [show (100 : Int32).toInt = 100 by decide]; omega) (ok_playBehind B hL1 hD hG1 hs1 hp (fun v2 hS2 hG2 => ?_)))
      have hS2' : Same [71, 72] v v2 := hS.trans (hS2.mono (by simp))
      have hG71 : Gd v2 71 D (sRp D p n g) := hG1.same hS2 (by decide)
      have hL2 : LC v2 D := hL.keep hS2' (by decide) (by decide) (by decide) (by decide)
      refine ok_isSame B hL2 hD (bI_71 B) (bI_72 B) hG71 hG2 hs1 (by rw [sEvG_sm]; exact hs1) (fun c1 => br1 ?_) (fun c1 => br0 (fun v4 e4 => ?_))
      · refine h1 v2 n hS2' ?_ (by omega) hG71
        rw [he, sFind, if_pos (show sEqv D (sRp D p n g) (sRp D p (n + 1) g) = true from c1)]
      · subst e4
        rw [nI_1]
        refine ih (n + 1) _ (by omega) (hS2'.wA (by simp)) (hG2.cpy hD) ?_
        rw [he, sFind, if_neg (by rw [show sEqv D (sRp D p n g) (sRp D p (n + 1) g) = false from c1]; decide)]
  exact vc_X0_restsBehind B (ok_startFromNow B hD hG (fun v1 hS hG1 => loop 101 0 v1 rfl (hS.mono (by simp)) hG1 rfl))
theorem ok_comesRound {Q : Int32 → xS → Prop} (B : Base z) (hL : LC v D) (hD : DB D) (hG : Gd v 31 D g) (hs : sm g (dn D) ≤ 90) {p : Nat} (hp : p < 2147483648) (h0 : ∀ v1, Same [71] v v1 → sRound D p g = none → Q (-9) v1) (h1 : ∀ v1 n, Same [71] v v1 → sRound D p g = some n → n ≤ 100 → Q (nI n) v1) : oX0_comesRound G (d + 6) [.ref 70, .int (nI p)] z v Q := by
  have loop : ∀ (c n : Nat) (v1 : xS), n + 1 + c = 101 → Same [71] v v1 → Gd v1 71 D (sRp D p n g) → sRound D p g = sFind (fun n => sEqv D (sRp D p n g) g) (n + 1) c → aX0_comesRound G (d + 6) 6 [some (.ref 70), some (.int (nI p)), some (.int (nI (n + 1)))] [] z v1 Q := by
    intro c
    induction c with
    | zero =>
      intro n v1 hn hS hG1 he
      have : n = 100 := by omega
      subst this
      exact vc_X0_comesRound_6 B (bt (by decide) (h0 v1 hS he))
    | succ c ih =>
      intro n v1 hn hS hG1 he
      have hL1 : LC v1 D := hL.keep hS (by decide) (by decide) (by decide) (by decide)
      have hs1 : sm (sRp D p n g) (dn D) ≤ 90 := by rw [sRp_sm]; exact hs
      refine vc_X0_comesRound_6 B (bf (by rw [i32lt, nIi (by omega)]; show ¬ (100 : Int32).toInt < _; rw [show (100 : Int32).toInt = 100 by decide]; omega) (ok_playAside B hL1 hD (xgr71 B) hG1 hs1 hp (fun v2 hS2 hG2 => ?_)))
      have hS2' := hS.trans hS2
      have hL2 : LC v2 D := hL.keep hS2' (by decide) (by decide) (by decide) (by decide)
      refine ok_isSame B hL2 hD (bI_71 B) (bI_31 B) hG2 (hG.same hS2' (by decide)) (by rw [sEvG_sm]; exact hs1) hs (fun c1 => br1 ?_) (fun c1 => br0 ?_)
      · refine h1 v2 (n + 1) hS2' ?_ (by omega)
        rw [he, sFind, if_pos (show sEqv D (sRp D p (n + 1) g) g = true from c1)]
      · rw [nI_1]
        refine ih (n + 1) v2 (by omega) hS2' hG2 ?_
        rw [he, sFind, if_neg (by rw [show sEqv D (sRp D p (n + 1) g) g = false from c1]; decide)]
  exact vc_X0_comesRound B (ok_startFromNow B hD hG (fun v1 hS hG1 => loop 100 0 v1 rfl hS hG1 rfl))
theorem eB_le (hD : DB D) (p : Nat) : eB D p ≤ 27 := by
  have h1 := sBr_le D hD p (db D) (Nat.le_refl _)
  have h2 := hD.2.1
  show sBr D p (db D) ≤ 27
  omega
theorem sKp_le (g : Nat → Nat) (x : Nat) : ∀ c, sKp D g x c ≤ c
  | 0 => Nat.le_refl 0
  | c + 1 => by
    have := sKp_le g x c
    rw [sKp]
    split <;> omega
theorem ok_loudestKeeping {Q : Int32 → xS → Prop} (B : Base z) (hL : LC v D) (hD : DB D) (hG : Gd v 31 D g) (hs : sm g (dn D) ≤ 90) {x : Nat} (hx : x < dn D) (hq : ∀ v1, Same [71] v v1 → Q (nI (sKp D g x (3 ^ db D - 1))) v1) : oX0_loudestKeeping G (d + 6) [.ref 70, .int (nI x)] z v Q := by
  have hn := hD.1
  have hp3 := pow3 hD.2.1
  have hp1 : 1 ≤ 3 ^ db D := Nat.one_le_pow _ _ (by decide)
  have loop : ∀ (c k : Nat) (v1 : xS), k ≤ 3 ^ db D - 1 → 3 ^ db D - 1 - k = c → Same [71] v v1 → aX0_loudestKeeping G (d + 6) 13 [some (.ref 70), some (.int (nI x)), some (.int (nI (sKp D g x k))), some (.int (nI (3 ^ db D))), some (.int (nI (k + 1)))] [] z v1 Q := by
    intro c
    induction c with
    | zero =>
      intro k v1 hk hc hS
      have ek : k = 3 ^ db D - 1 := by omega
      subst ek
      exact vc_X0_loudestKeeping_13 B (bt (by rw [i32le, nIi (by omega), nIi (by omega)]; omega) (hq v1 hS))
    | succ c ih =>
      intro k v1 hk hc hS
      have hL1 : LC v1 D := hL.keep hS (by decide) (by decide) (by decide) (by decide)
      have hkp := sKp_le (D := D) g x k
      have b1 := eB_le hD (k + 1)
      have b2 := eB_le hD (sKp D g x k)
      refine vc_X0_loudestKeeping_13 B (bf (by rw [i32le, nIi (by omega), nIi (by omega)]; omega) (ok_breathOf B hL1 hD (by omega) (ok_breathOf B hL1 hD (by omega) ⟨fun c1 => ?_, fun c1 => ?_⟩)))
      · rw [i32lt, nIi (by omega), nIi (by omega)] at c1
        refine ok_repeat1 B hL1 hD (hG.same hS (by decide)) hs (by omega) (fun r v2 hS2 hG2 => ?_)
        have v10 := vpN (j := x) (n := 10) (by omega) (by omega)
        have hS2' := hS.trans hS2
        have h31 := hG.same hS2' (by decide) x hx
        have hgx := sm_le (g := g) hx
        have hgx2 := sm_le (g := eG D (k + 1) g) hx
        rw [sEvG_sm] at hgx2
        refine ⟨v10, v10, ?_⟩
        rw [clN (by omega), hG2 x hx, h31, nI_1]
        have h9 := ih (k + 1) v2 (by omega) (by omega) hS2'
        refine ⟨fun c2 => ?_, fun c2 => ?_⟩
        · rw [sKp, if_neg (fun q => c2 (by rw [q.2]))] at h9
          exact h9
        · rw [sKp, if_pos ⟨by omega, nIinj (by omega) (by omega) c2⟩] at h9
          exact h9
      · rw [i32lt, nIi (by omega), nIi (by omega)] at c1
        have h9 := ih (k + 1) v1 (by omega) (by omega) hS
        rw [sKp, if_neg (fun q => by omega)] at h9
        rw [nI_1]
        exact h9
  exact vc_X0_loudestKeeping B (ok_programs B hL hD (loop (3 ^ db D - 1) 0 v (Nat.zero_le _) (by omega) (Same.rf _ _)))
end ASIDE
