/-! pairs: behind, rest, round, highest, lowest, keeps, rivals -/
theorem tn_0 (i : Nat) : tn 0 i = 0 := by unfold tn; simp
theorem eG_0 (D : xD) (g : Nat → Nat) : ∀ m, sEvG D 0 m g = g
  | 0 => rfl
  | m + 1 => by rw [sEvG, tn_0, sTune0, eG_0 D g m]
theorem eB_0 (D : xD) : ∀ m, sBr D 0 m = 0
  | 0 => rfl
  | m + 1 => by rw [sBr, tn_0, if_pos rfl, eB_0 D m]
theorem sEqv_comm (D : xD) (g g' : Nat → Nat) : sEqv D g g' = sEqv D g' g := by
  unfold sEqv
  by_cases h : ∀ x, x < dn D → g x = g' x
  · rw [decide_eq_true h, decide_eq_true (fun x hx => (h x hx).symm)]
  · rw [decide_eq_false h, decide_eq_false (fun q => h (fun x hx => (q x hx).symm))]
/-- the reference, evenings only thought of: only these rows, and the note of how it was -/
def AS (v w : xS) : Prop := Same [210, 214, 228, 229] v w ∧ Noted v w 228 0
theorem AS.pass {v w w1 : xS} (h : AS v w) (hs : Same [210, 214] w w1) : AS v w1 := ⟨h.1.trans (hs.mono (by simp)), fun x hx => by rw [hs.2 228 (by decide)]; exact h.2.1 x hx, fun x hx => by rw [hs.2 228 (by decide)]; exact h.2.2 x hx⟩
theorem AS.was {v w w1 : xS} (h : AS v w) (hs : Same [229] w w1) : AS v w1 := ⟨h.1.trans (hs.mono (by simp)), fun x hx => by rw [hs.2 228 (by decide)]; exact h.2.1 x hx, fun x hx => by rw [hs.2 228 (by decide)]; exact h.2.2 x hx⟩
theorem AS.lm {v w : xS} {D : xD} (h : AS v w) (hL : LM v D) : LM w D := hL.same h.1
section PASIDE
variable {G : xG} {d : Nat} {z : xZ} {v : xS} {R : xR}
theorem om_ahead {Q : xS → Prop} (B : Base z) (hq : ∀ v1, AS v v1 → Back v v1 → Q v1) : oX6_putAhead G (d + 2) [.ref 200] z v Q :=
  om_putAhead B (fun v1 hS hN => hq v1 ⟨hS.mono (by simp), hN⟩ ⟨fun x _ => by rw [Same1 hS (by decide)], fun x _ => by rw [Same1 hS (by decide)]⟩)
theorem om_back {Q : xS → Prop} {w : xS} (B : Base z) (h : AS v w) (hq : ∀ v1, AS v v1 → Back v v1 → QS v v1 → Q v1) : oX6_comeBack G (d + 2) [.ref 200] z w Q :=
  om_comeBack B h.2 (fun v1 hS hB => hq v1 (h.pass hS) hB (QS.ofB (h.pass hS).1 hB))
theorem pr_behind (B : Base z) (h : InvR z v R) {x y t : Int32} : oX5_behind G (d + 16) [.ref 0, .int x, .int y, .int t] z v (fun r v1 => oX6_behind G (d + 16) [.ref 200, .int x, .int y, .int t] z v1 (fun r' v2 => Pr z r r' v2)) := by
  have I := h.1
  have hn := I.D.1
  have hp27 := pow3 I.D.2.1
  by_cases cx : inR x (3 ^ db (rD R))
  case neg => exact vc_X5_behind B (ok_isProgram B I.LC I.D (fun q => absurd q cx) (fun _ => br0 (vc_X6_behind B (om_isProgram B I.LM I.D (fun q => absurd q cx) (fun _ => br0 (Pr.mk rfl h))))))
  have mbad : ¬ (0 ≤ y.toInt ∧ y.toInt ≤ 60) → oX6_behind G (d + 16) [.ref 200, .int x, .int y, .int t] z v (fun r' v2 => Pr z (-1) r' v2) := fun hy =>
    vc_X6_behind B (om_isProgram B I.LM I.D (fun _ => br1 (om_in B (fun a b => absurd ⟨by rw [i32_0] at a; exact a, by rw [i32_60] at b; exact b⟩ hy) (fun _ => br0 (Pr.mk rfl h)))) (fun q => absurd cx q))
  refine vc_X5_behind B (ok_isProgram B I.LC I.D (fun _ => br1 ⟨fun q => mbad (by rw [i32lt, i32_0] at q; omega), fun q => ⟨fun q2 => mbad (by rw [i32lt, i32_60] at q2; omega), fun q2 => ?_⟩⟩) (fun q => absurd cx q))
  rw [i32lt, i32_0] at q
  rw [i32lt, i32_60] at q2
  refine ok_isSpot B I.LC I.D (fun ct => nb1 ?_) (fun ct => nb0 (vc_X6_behind B (om_isProgram B I.LM I.D (fun _ => br1 (om_in B (fun _ _ => br1 (om_isSpot B I.LM I.D (fun w => absurd w ct) (fun _ => nb0 (Pr.mk rfl h)))) (fun a => absurd ⟨by rw [i32_0]; omega, by rw [i32_60]; omega⟩ a))) (fun q => absurd cx q))))
  obtain ⟨p, hp, ep, _⟩ := inR_of cx
  obtain ⟨n, en, en2, _⟩ := i32nat (x := y) (by omega)
  obtain ⟨j, hj, ej, _⟩ := inR_of ct
  subst ep en ej
  have vj := vpN (j := j) (n := 10) (by omega) (by omega)
  refine ok_repeat B I.LC I.D I.g I.s (by omega) (by omega) (fun v1 hS hG1 => ⟨vj, ok_tell B ?_⟩)
  rw [clN (by omega), hG1 j hj]
  have J1 := Jv.tell (y := nI (sRt (rD R) p n (rg R))) (Jv.q h (QS.of hS))
  generalize wV v1 0 10 (nI (sRt (rD R) p n (rg R))) = u at J1
  refine vc_X6_behind B (om_isProgram B J1.1.LM I.D (fun _ => br1 (om_in B (fun _ _ => br1 (om_isSpot B J1.1.LM I.D (fun _ => nb1 (om_ahead B (fun w hA hBk => ?_))) (fun q => absurd ct q))) (fun a => absurd ⟨by rw [i32_0]; omega, by rw [i32_60]; omega⟩ a))) (fun q => absurd cx q))
  have loop : ∀ (c k : Nat) (w : xS), k + c = n → AS u w → Gd w 210 (rD R) (sRp (rD R) p k (rg R)) → aX6_behind G (d + 16) 38 [some (.ref 200), some (.int (nI p)), some (.int (nI n)), some (.int (nI j)), some (.int (nI (sRt (rD R) p k (rg R)))), some (.int (nI k))] [] z w (fun r' v2 => Pr z (nI (sRp (rD R) p n (rg R) j)) r' v2) := by
    intro c
    induction c with
    | zero =>
      intro k w hk hA hG
      have : k = n := by omega
      subst this
      refine vc_X6_behind_38 B (bt (by rw [i32le]; omega) ⟨vj, om_back B hA (fun w2 hA2 hB2 hQ2 => ?_)⟩)
      rw [clN (by omega), hG j hj]
      exact om_ask B (Pr.mk rfl (J1.q hQ2).done)
    | succ c ih =>
      intro k w hk hA hG
      refine vc_X6_behind_38 B (bf (by rw [i32le, nIi (by omega), nIi (by omega)]; omega) (om_passEvening B (hA.lm J1.1.LM) I.D hG (by rw [sRp_sm]; exact I.s) (by omega) (fun w2 hS2 hG2 _ => ?_)))
      rw [nI_add, nI_1]
      exact ih (k + 1) w2 (by omega) (hA.pass hS2) hG2
  exact loop n 0 w (by omega) hA (J1.1.G.back I.D hBk)
theorem pr_rest (B : Base z) (h : InvR z v R) {x : Int32} : oX5_rest G (d + 16) [.ref 0, .int x] z v (fun r v1 => oX6_rest G (d + 16) [.ref 200, .int x] z v1 (fun r' v2 => Pr z r r' v2)) := by
  have I := h.1
  have hn := I.D.1
  have hp27 := pow3 I.D.2.1
  by_cases cx : inR x (3 ^ db (rD R))
  case neg => exact vc_X5_rest B (ok_isProgram B I.LC I.D (fun q => absurd q cx) (fun _ => nb0 (vc_X6_rest B (om_isProgram B I.LM I.D (fun q => absurd q cx) (fun _ => nb0 (Pr.mk rfl h))))))
  obtain ⟨p, hp, ep, _⟩ := inR_of cx
  subst ep
  have i100 : (100 : Int32).toInt = 100 := by decide
  -- the reference
  have model : ∀ (u : xS) (xx : Int32) (Q : Int32 → xS → Prop), Jv z u R xx → (sRest (rD R) p (rg R) = none → ∀ w, QS u w → Q (-9) w) → (∀ n, sRest (rD R) p (rg R) = some n → ∀ w, QS u w → Q (nI n) (wV w 200 2 (nI (sHigh (dn (rD R)) (sRp (rD R) p n (rg R)))))) → oX6_rest G (d + 16) [.ref 200, .int (nI p)] z u Q := by
    intro u xx Q J1 q0 q1
    refine vc_X6_rest B (om_isProgram B J1.1.LM I.D (fun _ => nb1 (om_ahead B (fun w hA hBk => ?_))) (fun q => absurd cx q))
    have fin : ∀ (n : Nat) (w : xS) (l4 : Int32), n ≤ 100 → sRest (rD R) p (rg R) = some n → AS u w → aX6_rest G (d + 16) 22 [some (.ref 200), some (.int (nI p)), some (.int (nI n)), some (.int (nI (sHigh (dn (rD R)) (sRp (rD R) p n (rg R))))), some (.int l4)] [] z w Q := by
      intro n w l4 hn hR hA
      have n9 : ¬ nI n = -9 := nI_ne9 (by omega)
      have go : oX6_comeBack G (d + 15) [.ref 200] z w (fun v1 => ((¬ nI n = (-9) → (oX6_ask G (d + 15) [.ref 200, .int (nI (sHigh (dn (rD R)) (sRp (rD R) p n (rg R)))), .int (nI n)] z v1 (fun r3 v2 => Q r3 v2))) ∧ (nI n = (-9) → Q (-9) v1))) :=
        om_back B hA (fun w2 _ _ hQ => nt n9 (om_ask B (q1 n hR w2 hQ)))
      exact vc_X6_rest_22 B ⟨fun _ => go, fun _ => nt n9 go⟩
    have loop : ∀ (c n : Nat) (w : xS) (l3 : Int32), n + c = 101 → AS u w → Gd w 210 (rD R) (sRp (rD R) p n (rg R)) → sRest (rD R) p (rg R) = sFind (fun n => sEqv (rD R) (sRp (rD R) p n (rg R)) (sRp (rD R) p (n + 1) (rg R))) n c → aX6_rest G (d + 16) 22 [some (.ref 200), some (.int (nI p)), some (.int (-9)), some (.int l3), some (.int (nI n))] [] z w Q := by
      intro c
      induction c with
      | zero =>
        intro n w l3 hnc hA hG hR
        refine vc_X6_rest_22 B (bt (by rw [i32lt, i100, nIi (by omega)]; omega) (om_back B hA (fun w2 _ _ hQ => nf rfl (q0 hR w2 hQ))))
      | succ c ih =>
        intro n w l3 hnc hA hG hR
        have hs : sm (sRp (rD R) p n (rg R)) (dn (rD R)) ≤ 90 := by rw [sRp_sm]; exact I.s
        have hs1 : sm (sRp (rD R) p (n + 1) (rg R)) (dn (rD R)) ≤ 90 := by rw [sRp_sm]; exact I.s
        have L := hA.lm J1.1.LM
        rw [sFind] at hR
        refine vc_X6_rest_22 B (bf (by rw [i32lt, i100, nIi (by omega)]; omega) (nf rfl (om_highestNow B L I.D hG hs (om_setWas B (fun w2 hS2 hw2 => ?_)))))
        have L2 := (hA.was hS2).lm J1.1.LM
        refine om_passEvening B L2 I.D (hG.same hS2 (by decide)) hs (by omega) (fun w3 hS3 hG3 _ => ?_)
        have hA3 := (hA.was hS2).pass hS3
        have hW3 : Gd w3 229 (rD R) (sRp (rD R) p n (rg R)) := fun y hy => by rw [hS3.2 229 (by decide), hw2 y (by omega)]; exact hG y hy
        rw [nI_1]
        refine om_isWas B (hA3.lm J1.1.LM) I.D hG3 hW3 hs1 hs (fun c1 => br1 ?_) (fun c1 => br0 ?_)
        · refine fin n w3 _ (by omega) ?_ hA3
          rw [hR, if_pos (show sEqv (rD R) (sRp (rD R) p n (rg R)) (sRp (rD R) p (n + 1) (rg R)) = true from c1)]
        · refine ih (n + 1) w3 _ (by omega) hA3 hG3 ?_
          rw [hR, if_neg (by rw [show sEqv (rD R) (sRp (rD R) p n (rg R)) (sRp (rD R) p (n + 1) (rg R)) = false from c1]; decide)]
    exact loop 101 0 w 0 rfl hA (J1.1.G.back I.D hBk) rfl
  refine vc_X5_rest B (ok_isProgram B I.LC I.D (fun _ => nb1 (ok_restsBehind B I.LC I.D I.g I.s (by omega) (fun v1 hS hR => nf rfl ?_) (fun v1 n hS hR hn100 hG => nt (nI_ne9 (by omega)) ?_))) (fun q => absurd cx q))
  · exact model v1 _ _ (Jv.q h (QS.of hS)) (fun _ w hQ => Pr.mk rfl (h.q ((QS.of hS).trans hQ))) (fun n hR2 => by rw [hR] at hR2; exact absurd hR2 (by simp))
  · have J1 := Jv.q h (QS.of hS)
    refine ok_highestOf B J1.1.LC I.D (bI_71 B) hG (by rw [sRp_sm]; exact I.s) (ok_tell B ?_)
    have J2 := Jv.tell (y := nI (sHigh (dn (rD R)) (sRp (rD R) p n (rg R)))) J1
    refine model _ _ _ J2 (fun hR2 => by rw [hR] at hR2; exact absurd hR2 (by simp)) (fun n2 hR2 w hQ => ?_)
    have : n2 = n := by rw [hR] at hR2; injection hR2 with e; exact e.symm
    subst this
    exact Pr.mk rfl (J2.q hQ).done
theorem pr_round (B : Base z) (h : InvR z v R) {x : Int32} : oX5_round G (d + 16) [.ref 0, .int x] z v (fun r v1 => oX6_round G (d + 16) [.ref 200, .int x] z v1 (fun r' v2 => Pr z r r' v2)) := by
  have I := h.1
  have hn := I.D.1
  have hp27 := pow3 I.D.2.1
  by_cases cx : inR x (3 ^ db (rD R))
  case neg => exact vc_X5_round B (ok_isProgram B I.LC I.D (fun q => absurd q cx) (fun _ => nb0 (vc_X6_round B (om_isProgram B I.LM I.D (fun q => absurd q cx) (fun _ => nb0 (Pr.mk rfl h))))))
  obtain ⟨p, hp, ep, _⟩ := inR_of cx
  subst ep
  have i100 : (100 : Int32).toInt = 100 := by decide
  have model : ∀ (u : xS) (Q : Int32 → xS → Prop), InvR z u R → (sRound (rD R) p (rg R) = none → ∀ w, QS u w → Q (-9) w) → (∀ n, sRound (rD R) p (rg R) = some n → ∀ w, QS u w → Q (nI n) w) → oX6_round G (d + 16) [.ref 200, .int (nI p)] z u Q := by
    intro u Q J1 q0 q1
    refine vc_X6_round B (om_isProgram B J1.1.LM I.D (fun _ => nb1 (om_ahead B (fun w hA hBk => om_setWas B (fun w2 hS2 hw2 => ?_)))) (fun q => absurd cx q))
    have fin : ∀ (n : Nat) (w : xS) (l4 : Int32), n ≤ 100 → sRound (rD R) p (rg R) = some n → AS u w → aX6_round G (d + 16) 23 [some (.ref 200), some (.int (nI p)), some (.int (nI n)), some (.int l4)] [] z w Q := by
      intro n w l4 hn hR hA
      have n9 : ¬ nI n = -9 := nI_ne9 (by omega)
      have go : oX6_comeBack G (d + 15) [.ref 200] z w (fun v1 => Q (nI n) v1) := om_back B hA (fun w2 _ _ hQ => q1 n hR w2 hQ)
      exact vc_X6_round_23 B ⟨fun _ => go, fun _ => nt n9 go⟩
    have hG0 := J1.1.G.back I.D hBk
    have loop : ∀ (c n : Nat) (w : xS), n + c = 100 → AS u w → Gd w 210 (rD R) (sRp (rD R) p n (rg R)) → Gd w 229 (rD R) (rg R) → sRound (rD R) p (rg R) = sFind (fun n => sEqv (rD R) (sRp (rD R) p n (rg R)) (rg R)) (n + 1) c → aX6_round G (d + 16) 23 [some (.ref 200), some (.int (nI p)), some (.int (-9)), some (.int (nI (n + 1)))] [] z w Q := by
      intro c
      induction c with
      | zero =>
        intro n w hnc hA hG hW hR
        exact vc_X6_round_23 B (bt (by rw [i32lt, i100, nIi (by omega)]; omega) (om_back B hA (fun w2 _ _ hQ => q0 hR w2 hQ)))
      | succ c ih =>
        intro n w hnc hA hG hW hR
        have hs : sm (sRp (rD R) p n (rg R)) (dn (rD R)) ≤ 90 := by rw [sRp_sm]; exact I.s
        have hs1 : sm (sRp (rD R) p (n + 1) (rg R)) (dn (rD R)) ≤ 90 := by rw [sRp_sm]; exact I.s
        rw [sFind] at hR
        refine vc_X6_round_23 B (bf (by rw [i32lt, i100, nIi (by omega)]; omega) (nf rfl (om_passEvening B (hA.lm J1.1.LM) I.D hG hs (by omega) (fun w3 hS3 hG3 _ => ?_))))
        have hA3 := hA.pass hS3
        have hW3 : Gd w3 229 (rD R) (rg R) := hW.same hS3 (by decide)
        rw [nI_1]
        refine om_isWas B (hA3.lm J1.1.LM) I.D hG3 hW3 hs1 I.s (fun c1 => br1 ?_) (fun c1 => br0 ?_)
        · refine fin (n + 1) w3 _ (by omega) ?_ hA3
          rw [hR, if_pos (by rw [sEqv_comm]; exact c1)]
        · refine ih (n + 1) w3 (by omega) hA3 hG3 hW3 ?_
          rw [hR, if_neg (by rw [sEqv_comm]; rw [show sEqv (rD R) (rg R) (sRp (rD R) p (n + 1) (rg R)) = false from c1]; decide)]
    exact loop 100 0 w2 rfl (hA.was hS2) (hG0.same hS2 (by decide)) (fun y hy => by rw [hw2 y (by omega)]; exact hG0 y hy) rfl
  refine vc_X5_round B (ok_isProgram B I.LC I.D (fun _ => nb1 (ok_comesRound B I.LC I.D I.g I.s (by omega) (fun v1 hS hR => ?_) (fun v1 n hS hR hn100 => ?_))) (fun q => absurd cx q))
  · exact model v1 _ (h.q (QS.of hS)) (fun _ w hQ => Pr.mk rfl (h.q ((QS.of hS).trans hQ))) (fun n hR2 => by rw [hR] at hR2; exact absurd hR2 (by simp))
  · refine model v1 _ (h.q (QS.of hS)) (fun hR2 => by rw [hR] at hR2; exact absurd hR2 (by simp)) (fun n2 hR2 w hQ => ?_)
    have : n2 = n := by rw [hR] at hR2; injection hR2 with e; exact e.symm
    subst this
    exact Pr.mk rfl (h.q ((QS.of hS).trans hQ))
/-- higher, lower: with a sign -/
theorem sgn_lt (up : Bool) {w : Int32} (hw : w = if up = true then 1 else -1) {a b : Nat} (ha : a ≤ 90) (hb : b ≤ 90) : (w * nI a < w * nI b) ↔ sBetter up b a = true := by
  subst hw
  cases up
  · simp only [sBetter, if_false, decide_eq_true_eq]
    rw [show (if false = true then (1 : Int32) else -1) = -1 from rfl]
    rw [i32lt, i32mul (by rw [i32_m1, nIi (by omega)]; omega) (by rw [i32_m1, nIi (by omega)]; omega), i32mul (by rw [i32_m1, nIi (by omega)]; omega) (by rw [i32_m1, nIi (by omega)]; omega), i32_m1, nIi (by omega), nIi (by omega)]
    simp
  · rw [show (if true = true then (1 : Int32) else -1) = 1 from rfl]
    rw [i32lt, i32mul (by rw [i32_1, nIi (by omega)]; omega) (by rw [i32_1, nIi (by omega)]; omega), i32mul (by rw [i32_1, nIi (by omega)]; omega) (by rw [i32_1, nIi (by omega)]; omega), i32_1, nIi (by omega), nIi (by omega)]
    simp [sBetter]
theorem sPick_s (up : Bool) (f : Nat → Nat) (t : Nat) : sPick up f (t + 1) = if sBetter up (f (t + 1)) (sPick up f t).1 = true then (f (t + 1), t + 1) else sPick up f t := rfl
theorem pr_extreme (up : Bool) (B : Base z) (h : InvR z v R) {j : Nat} (hj : j < dn (rD R)) {w : Int32} (hw : w = if up = true then 1 else -1) {Q : Int32 → xS → Prop} (hq : ∀ v1 r, (∀ Q' : Int32 → xS → Prop, (∀ v2, (∃ R', InvR z v2 R') → Q' r v2) → oX6_bestOf G (d + 14) [.ref 200, .int (nI j), .int w] z v1 Q') → (∃ xx, Jv z v1 R xx) → Q r v1) : oX5_extreme G (d + 14) [.ref 0, .int (nI j), .int w] z v Q := by
  have I := h.1
  have hn := I.D.1
  have hp27 := pow3 I.D.2.1
  have hp1 : 1 ≤ 3 ^ db (rD R) := Nat.one_le_pow _ _ (by decide)
  have vj := vpN (j := j) (n := 10) (by omega) (by omega)
  obtain ⟨f, hf⟩ : ∃ f : Nat → Nat, f = fun t => eG (rD R) t (rg R) j := ⟨_, rfl⟩
  have hfle : ∀ t, f t ≤ 90 := fun t => by
    rw [hf]
    refine Nat.le_trans (sm_le (g := eG (rD R) t (rg R)) hj) ?_
    rw [sEvG_sm]
    exact I.s
  have hple := fun t => sPick_val up f 90 hfle t
  have f0 : f 0 = rg R j := by rw [hf]; show sEvG (rD R) 0 (db (rD R)) (rg R) j = _; rw [eG_0]
  -- the reference
  have model : ∀ u : xS, Jv z u R (nI (sPick up f (3 ^ db (rD R) - 1)).1) → ∀ Q' : Int32 → xS → Prop, (∀ v2, (∃ R', InvR z v2 R') → Q' (nI (sPick up f (3 ^ db (rD R) - 1)).2) v2) → oX6_bestOf G (d + 14) [.ref 200, .int (nI j), .int w] z u Q' := by
    intro u J1 Q' hQ'
    refine vc_X6_bestOf B (om_ahead B (fun w1 hA hBk => ?_))
    have loop : ∀ (c t : Nat) (u1 : xS) (l3 l4 : Int32), t + c = 3 ^ db (rD R) → AS u u1 → Back u u1 → QS u u1 → (t = 0 → l3 = -9) → (0 < t → l3 = nI (sPick up f (t - 1)).2 ∧ l4 = nI (sPick up f (t - 1)).1) → aX6_bestOf G (d + 14) 13 [some (.ref 200), some (.int (nI j)), some (.int w), some (.int l3), some (.int l4), some (.int (nI t)), none, none] [] z u1 Q' := by
      intro c
      induction c with
      | zero =>
        intro t u1 l3 l4 ht hA hB hQ h0 h1
        obtain ⟨e3, e4⟩ := h1 (by omega)
        have et : t = 3 ^ db (rD R) := by omega
        refine vc_X6_bestOf_13 B (om_programs B (hA.lm J1.1.LM) I.D (bt (by rw [i32le, nIi (by omega), nIi (by omega)]; omega) ?_))
        rw [e3, e4, et]
        exact om_ask B (hQ' _ ⟨R, (J1.q hQ).done⟩)
      | succ c ih =>
        intro t u1 l3 l4 ht hA hB hQ h0 h1
        have hft := hfle t
        refine vc_X6_bestOf_13 B (om_programs B (hA.lm J1.1.LM) I.D (bf (by rw [i32le, nIi (by omega), nIi (by omega)]; omega) (om_passEvening B (hA.lm J1.1.LM) I.D (J1.1.G.back I.D hB) I.s (by omega) (fun u2 hS2 hG2 _ => ⟨vj, om_back B (hA.pass hS2) (fun u3 hA3 hB3 hQ3 => ?_)⟩))))
        have e2 : u2.1 210 j = nI (f t) := by rw [hf]; exact hG2 j hj
        rw [clN (by omega), e2, nI_1]
        have c9 : l3 = -9 ↔ t = 0 := by
          refine ⟨fun q => ?_, h0⟩
          by_cases hh : t = 0
          · exact hh
          · rw [(h1 (by omega)).1] at q
            have := sPick_ix up f (t - 1)
            exact absurd q (nI_ne9 (by omega))
        refine ⟨fun q => ?_, fun q => ?_⟩
        · have t0 := c9.mp q
          refine ih (t + 1) u3 _ _ (by omega) hA3 hB3 hQ3 (fun q => absurd q (Nat.succ_ne_zero _)) (fun _ => ?_)
          rw [Nat.add_sub_cancel, t0]
          exact ⟨rfl, rfl⟩
        · have t0 : t ≠ 0 := fun q2 => q (c9.mpr q2)
          obtain ⟨s, rfl⟩ : ∃ s, t = s + 1 := ⟨t - 1, by omega⟩
          obtain ⟨e3, e4⟩ := h1 (by omega)
          rw [Nat.add_sub_cancel] at e3 e4
          have hps := hple s
          have hsg := sgn_lt up hw hps hft
          refine ⟨fun q2 => ?_, fun q2 => ?_⟩
          · refine ih (s + 1 + 1) u3 _ _ (by omega) hA3 hB3 hQ3 (fun q => absurd q (Nat.succ_ne_zero _)) (fun _ => ?_)
            rw [Nat.add_sub_cancel, sPick_s, if_neg (fun q3 => ?_)]
            · exact ⟨e3, e4⟩
            · have := hsg.mpr q3
              rw [e4] at q2
              rw [i32lt] at this
              rw [i32le] at q2
              omega
          · refine ih (s + 1 + 1) u3 _ _ (by omega) hA3 hB3 hQ3 (fun q => absurd q (Nat.succ_ne_zero _)) (fun _ => ?_)
            rw [Nat.add_sub_cancel, sPick_s, if_pos]
            · exact ⟨rfl, rfl⟩
            · refine hsg.mp ?_
              rw [e4, i32le] at q2
              rw [i32lt]
              omega
    exact loop (3 ^ db (rD R)) 0 w1 (-9) 0 (by omega) hA hBk (QS.ofB hA.1 hBk) (fun _ => rfl) (fun q => absurd q (Nat.lt_irrefl 0))
  have loop : ∀ (c t : Nat) (u : xS), t + 1 + c = 3 ^ db (rD R) → QS v u → aX5_extreme G (d + 14) 25 [some (.ref 0), some (.int (nI j)), some (.int w), some (.int (nI (sPick up f t).2)), some (.int (nI (sPick up f t).1)), some (.int (nI (3 ^ db (rD R)))), some (.int (nI (t + 1)))] [] z u Q := by
    intro c
    induction c with
    | zero =>
      intro t u ht hQ
      have et : t = 3 ^ db (rD R) - 1 := by omega
      refine vc_X5_extreme_25 B (bt (by rw [i32le, nIi (by omega), nIi (by omega)]; omega) (ok_tell B ?_))
      have J1 := Jv.tell (y := nI (sPick up f t).1) (Jv.q h hQ)
      rw [et] at J1 ⊢
      exact hq _ _ (model _ J1) ⟨_, J1⟩
    | succ c ih =>
      intro t u ht hQ
      have Ju := h.q hQ
      have hft := hfle (t + 1)
      have hps := hple t
      have hsg := sgn_lt up hw hps hft
      refine vc_X5_extreme_25 B (bf (by rw [i32le, nIi (by omega), nIi (by omega)]; omega) (ok_repeat1 B Ju.1.LC I.D Ju.1.g I.s (by omega) (fun r u2 hS2 hG2 => ⟨vj, ?_⟩)))
      have e2 : u2.1 71 j = nI (f (t + 1)) := by rw [hf]; exact hG2 j hj
      rw [clN (by omega), e2, nI_1]
      refine ⟨fun q => ⟨vj, ?_⟩, fun q => ?_⟩
      · have := ih (t + 1) u2 (by omega) (hQ.trans (QS.of hS2))
        rw [sPick_s, if_pos (hsg.mp q)] at this
        exact this
      · have := ih (t + 1) u2 (by omega) (hQ.trans (QS.of hS2))
        rw [sPick_s, if_neg (fun q2 => q (hsg.mpr q2))] at this
        exact this
  refine vc_X5_extreme B ⟨vj, ok_programs B I.LC I.D ?_⟩
  rw [clN (by omega), I.g j hj]
  have := loop (3 ^ db (rD R) - 1) 0 v (by omega) (QS.rf v)
  rw [show sPick up f 0 = (f 0, 0) from rfl, f0] at this
  exact this
theorem pr_highest (B : Base z) (h : InvR z v R) {x : Int32} : oX5_highest G (d + 16) [.ref 0, .int x] z v (fun r v1 => oX6_highest G (d + 16) [.ref 200, .int x] z v1 (fun r' v2 => Pr z r r' v2)) := by
  have I := h.1
  by_cases cx : inR x (dn (rD R))
  case neg => exact vc_X5_highest B (ok_isSpot B I.LC I.D (fun q => absurd q cx) (fun _ => br0 (vc_X6_highest B (om_isSpot B I.LM I.D (fun q => absurd q cx) (fun _ => br0 (Pr.mk rfl h))))))
  obtain ⟨j, hj, ej, _⟩ := inR_of cx
  subst ej
  refine vc_X5_highest B (ok_isSpot B I.LC I.D (fun _ => br1 (pr_extreme (d := d + 1) true B h hj rfl (fun v1 r hm hJ => ?_))) (fun q => absurd cx q))
  obtain ⟨xx, J1⟩ := hJ
  exact vc_X6_highest B (om_isSpot B J1.1.LM I.D (fun _ => br1 (hm _ (fun v2 hv => ⟨rfl, hv⟩))) (fun q => absurd cx q))
theorem pr_lowest (B : Base z) (h : InvR z v R) {x : Int32} : oX5_lowest G (d + 16) [.ref 0, .int x] z v (fun r v1 => oX6_lowest G (d + 16) [.ref 200, .int x] z v1 (fun r' v2 => Pr z r r' v2)) := by
  have I := h.1
  by_cases cx : inR x (dn (rD R))
  case neg => exact vc_X5_lowest B (ok_isSpot B I.LC I.D (fun q => absurd q cx) (fun _ => br0 (vc_X6_lowest B (om_isSpot B I.LM I.D (fun q => absurd q cx) (fun _ => br0 (Pr.mk rfl h))))))
  obtain ⟨j, hj, ej, _⟩ := inR_of cx
  subst ej
  refine vc_X5_lowest B (ok_isSpot B I.LC I.D (fun _ => br1 (pr_extreme (d := d + 1) false B h hj rfl (fun v1 r hm hJ => ?_))) (fun q => absurd cx q))
  obtain ⟨xx, J1⟩ := hJ
  exact vc_X6_lowest B (om_isSpot B J1.1.LM I.D (fun _ => br1 (hm _ (fun v2 hv => ⟨rfl, hv⟩))) (fun q => absurd cx q))
end PASIDE
