/-! pairs: valleys, top, border, shifts, asked, finding, findings, upper, lower -/
theorem add0 (x : Int32) : x + 0 = x := Int32.add_zero x
section PVAL
variable {G : xG} {d : Nat} {z : xZ} {v : xS} {R : xR}
/-- valleys: how many, run, longest -/
def sVa (g : Nat → Nat) : Nat → Nat × Nat × Nat
  | 0 => (0, 0, 0)
  | x + 1 => if g x = 0 then ((sVa g x).1 + (if (sVa g x).2.1 = 0 then 1 else 0), (sVa g x).2.1 + 1, if (sVa g x).2.2 < (sVa g x).2.1 + 1 then (sVa g x).2.1 + 1 else (sVa g x).2.2) else ((sVa g x).1, 0, (sVa g x).2.2)
theorem sVa_le (g : Nat → Nat) : ∀ x, (sVa g x).1 ≤ x ∧ (sVa g x).2.1 ≤ x ∧ (sVa g x).2.2 ≤ x
  | 0 => by simp [sVa]
  | x + 1 => by
    have := sVa_le g x
    rw [sVa]
    split
    · dsimp only
      refine ⟨?_, by omega, ?_⟩
      · split <;> omega
      · split <;> omega
    · dsimp only
      omega
theorem pr_valleys (B : Base z) (h : InvR z v R) : oX5_valleys G (d + 16) [.ref 0] z v (fun r v1 => oX6_valleys G (d + 16) [.ref 200] z v1 (fun r' v2 => Pr z r r' v2)) := by
  have I := h.1
  have hn := I.D.1
  obtain ⟨n, hN⟩ : ∃ n, n = dn (rD R) := ⟨_, rfl⟩
  have hgs : ∀ x, x < dn (rD R) → rg R x ≤ 90 := fun x hx => Nat.le_trans (sm_le hx) I.s
  have nz : ∀ x, x < dn (rD R) → (nI (rg R x) = 0 ↔ rg R x = 0) := fun x hx => ⟨fun q => nIinj (b := 0) (by have := hgs x hx; omega) (by omega) q, fun q => by rw [q]; rfl⟩
  have one : ∀ k : Nat, k < 100 → (nI (k + 1) = 1 ↔ k = 0) := fun k hk => ⟨fun q => by have := nIinj (b := 1) (by omega) (by omega) q; omega, fun q => by rw [q]; rfl⟩
  have model : ∀ u : xS, Jv z u R (nI (sVa (rg R) (dn (rD R))).2.2) → oX6_valleys G (d + 16) [.ref 200] z u (fun r' v2 => Pr z (nI (sVa (rg R) (dn (rD R))).1) r' v2) := by
    intro u J1
    have loop : ∀ (c x : Nat), x + c = dn (rD R) → aX6_valleys G (d + 16) 9 [some (.ref 200), some (.int (nI (sVa (rg R) x).1)), some (.int (nI (sVa (rg R) x).2.2)), some (.int (nI (sVa (rg R) x).2.1)), some (.int (nI x))] [] z u (fun r' v2 => Pr z (nI (sVa (rg R) (dn (rD R))).1) r' v2) := by
      intro c
      induction c with
      | zero =>
        intro x hx
        have : x = dn (rD R) := by omega
        subst this
        exact vc_X6_valleys_9 B (bt (by rw [J1.1.LM.1, i32le]; omega) (om_ask B (Pr.mk rfl J1.done)))
      | succ c ih =>
        intro x hx
        have hle := sVa_le (rg R) x
        have go := ih (x + 1) (by omega)
        rw [sVa] at go
        refine vc_X6_valleys_9 B (bf (by rw [J1.1.LM.1, i32le, nIi (by omega), nIi (by omega)]; omega) ⟨vpN (by omega) (by omega), ?_⟩)
        rw [clN (by omega), J1.1.G x (by omega), nI_1 x, nI_1, nI_1, add0]
        refine ⟨fun q => ?_, fun q => ?_⟩
        · rw [nz x (by omega)] at q
          rw [if_neg q] at go
          exact bt (by rw [i32le, i32_0, nIi (by omega)]; omega) go
        · rw [nz x (by omega)] at q
          rw [if_pos q] at go
          dsimp only at go
          refine ⟨fun q2 => ?_, fun q2 => ?_⟩
          · rw [one _ (by omega)] at q2
            rw [if_neg q2, Nat.add_zero] at go
            refine ⟨fun q3 => ?_, fun q3 => ?_⟩
            · rw [i32le, nIi (by omega), nIi (by omega)] at q3
              rw [if_neg (by omega)] at go
              exact go
            · rw [i32le, nIi (by omega), nIi (by omega)] at q3
              rw [if_pos (by omega)] at go
              exact go
          · rw [one _ (by omega)] at q2
            rw [if_pos q2] at go
            refine ⟨fun q3 => ?_, fun q3 => ?_⟩
            · rw [i32le, nIi (by omega), nIi (by omega)] at q3
              rw [if_neg (by omega)] at go
              exact go
            · rw [i32le, nIi (by omega), nIi (by omega)] at q3
              rw [if_pos (by omega)] at go
              exact go
    exact vc_X6_valleys B (loop (dn (rD R)) 0 (by omega))
  have loop : ∀ (c x : Nat), x + c = dn (rD R) → aX5_valleys G (d + 16) 9 [some (.ref 0), some (.int (nI (sVa (rg R) x).1)), some (.int (nI (sVa (rg R) x).2.1)), some (.int (nI (sVa (rg R) x).2.2)), some (.int (nI x))] [] z v (fun r v1 => oX6_valleys G (d + 16) [.ref 200] z v1 (fun r' v2 => Pr z r r' v2)) := by
    intro c
    induction c with
    | zero =>
      intro x hx
      have : x = dn (rD R) := by omega
      subst this
      exact vc_X5_valleys_9 B (bt (by rw [I.LC.1, i32le]; omega) (ok_tell B (model _ (Jv.tell h))))
    | succ c ih =>
      intro x hx
      have hle := sVa_le (rg R) x
      have go := ih (x + 1) (by omega)
      rw [sVa] at go
      refine vc_X5_valleys_9 B (bf (by rw [I.LC.1, i32le, nIi (by omega), nIi (by omega)]; omega) ⟨vpN (by omega) (by omega), ?_⟩)
      rw [clN (by omega), I.g x (by omega), nI_1 x, nI_1, nI_1]
      refine ⟨fun q => ?_, fun q => ?_⟩
      · rw [nz x (by omega)] at q
        rw [if_neg q] at go
        rw [if_neg (by rw [i32lt, i32_0, nIi (by omega)]; omega)]
        exact go
      · rw [nz x (by omega)] at q
        rw [if_pos q] at go
        dsimp only at go
        have emax : (if nI (sVa (rg R) x).2.2 < nI ((sVa (rg R) x).2.1 + 1) then nI ((sVa (rg R) x).2.1 + 1) else nI (sVa (rg R) x).2.2) = nI (if (sVa (rg R) x).2.2 < (sVa (rg R) x).2.1 + 1 then (sVa (rg R) x).2.1 + 1 else (sVa (rg R) x).2.2) := by
          by_cases q3 : (sVa (rg R) x).2.2 < (sVa (rg R) x).2.1 + 1
          · rw [if_pos q3, if_pos (by rw [i32lt, nIi (by omega), nIi (by omega)]; omega)]
          · rw [if_neg q3, if_neg (by rw [i32lt, nIi (by omega), nIi (by omega)]; omega)]
        rw [emax]
        refine ⟨fun q2 => ?_, fun q2 => ?_⟩
        · rw [one _ (by omega)] at q2
          rw [if_neg q2, Nat.add_zero] at go
          exact go
        · rw [one _ (by omega)] at q2
          rw [if_pos q2] at go
          exact go
  exact vc_X5_valleys B (loop (dn (rD R)) 0 (by omega))
theorem pr_top (B : Base z) (h : InvR z v R) : oX5_top G (d + 16) [.ref 0] z v (fun r v1 => oX6_top G (d + 16) [.ref 200] z v1 (fun r' v2 => Pr z r r' v2)) := by
  have I := h.1
  have hn := I.D.1
  refine vc_X5_top B ⟨fun q => ?_, fun q => ?_⟩
  · rw [I.LC.1] at q ⊢
    have h0 : dn (rD R) ≠ 0 := fun w => q (by rw [w]; rfl)
    have ht := sTop_in (rg R) 0 (dn (rD R) - 1)
    have vt := vpN (j := sTop (rg R) 0 (dn (rD R) - 1)) (n := 10) (by omega) (by omega)
    rw [nI_m1 (by omega)]
    refine ok_firstHighest (x := 0) B I.LC I.D (bI_31 B) I.g I.s (Nat.zero_le _) (by omega) ?_
    rw [Nat.sub_zero, clN (by omega), I.g _ (by omega)]
    refine ⟨vt, ok_tell B ?_⟩
    have J1 := Jv.tell (y := nI (rg R (sTop (rg R) 0 (dn (rD R) - 1)))) h
    refine vc_X6_top B (nt (by rw [J1.1.LM.1]; exact q) ?_)
    rw [J1.1.LM.1, nI_m1 (by omega)]
    refine om_topOf (x := 0) B I.D J1.1.G I.s (Nat.zero_le _) (by omega) ?_
    rw [Nat.sub_zero, clN (by omega), J1.1.G _ (by omega)]
    exact ⟨vt, om_ask B (Pr.mk rfl J1.done)⟩
  · rw [I.LC.1] at q
    exact vc_X6_top B (nf (by rw [I.LM.1]; exact q) (Pr.mk rfl h))
def isStr (D : xD) (x y : Int32) : Prop := inR x (dn D) ∧ inR y (dn D) ∧ x.toInt < y.toInt
theorem ok_isStretch {Q : Int32 → xS → Prop} {D : xD} (B : Base z) (hL : LC v D) (hD : DB D) {x y : Int32} (h1 : isStr D x y → Q 1 v) (h0 : ¬ isStr D x y → Q 0 v) : oX5_isStretch G (d + 2) [.ref 0, .int x, .int y] z v Q := by
  refine vc_X5_isStretch B (ok_isSpot B hL hD (fun cx => br1 (ok_isSpot B hL hD (fun cy => br1 ⟨fun q => h0 (fun w => ?_), fun q => h1 ⟨cx, cy, ?_⟩⟩) (fun c => br0 (h0 (fun w => c w.2.1))))) (fun c => br0 (h0 (fun w => c w.1))))
  · rw [i32le] at q; have := w.2.2; omega
  · rw [i32le] at q; omega
theorem om_isSpan {Q : Int32 → xS → Prop} {D : xD} (B : Base z) (hL : LM v D) (hD : DB D) {x y : Int32} (h1 : isStr D x y → Q 1 v) (h0 : ¬ isStr D x y → Q 0 v) : oX6_isSpan G (d + 3) [.ref 200, .int x, .int y] z v Q := by
  refine vc_X6_isSpan B (om_isSpot B hL hD (fun cx => br1 (om_isSpot B hL hD (fun cy => br1 ⟨fun q => h0 (fun w => ?_), fun q => h1 ⟨cx, cy, ?_⟩⟩) (fun c => br0 (h0 (fun w => c w.2.1))))) (fun c => br0 (h0 (fun w => c w.1))))
  · rw [i32le] at q; have := w.2.2; omega
  · rw [i32le] at q; omega
theorem pr_border (B : Base z) (h : InvR z v R) {x y : Int32} : oX5_border G (d + 16) [.ref 0, .int x, .int y] z v (fun r v1 => oX6_border G (d + 16) [.ref 200, .int x, .int y] z v1 (fun r' v2 => Pr z r r' v2)) := by
  have I := h.1
  have hn := I.D.1
  refine vc_X5_border B (ok_isStretch B I.LC I.D (fun c => nb1 ?_) (fun c => nb0 (vc_X6_border B (om_isSpan B I.LM I.D (fun q => absurd q c) (fun _ => nb0 (Pr.mk rfl h))))))
  obtain ⟨i, hi, ei, _⟩ := inR_of c.1
  obtain ⟨j, hj, ej, _⟩ := inR_of c.2.1
  have hij := c.2.2
  subst ei ej
  rw [nIi (by omega), nIi (by omega)] at hij
  have ht := sTop_in (rg R) i (j - i)
  have vt := vpN (j := sTop (rg R) i (j - i)) (n := 10) (by omega) (by omega)
  refine ok_firstHighest B I.LC I.D (bI_31 B) I.g I.s (by omega) hj ⟨vt, ?_⟩
  rw [clN (by omega), I.g _ (by omega)]
  refine ok_tell B ?_
  have J1 := Jv.tell (y := nI (rg R (sTop (rg R) i (j - i)))) h
  refine vc_X6_border B (om_isSpan B J1.1.LM I.D (fun _ => nb1 (om_topOf B I.D J1.1.G I.s (by omega) hj ⟨vt, ?_⟩)) (fun q => absurd c q))
  rw [clN (by omega), J1.1.G _ (by omega)]
  exact om_ask B (Pr.mk rfl J1.done)
theorem pr_shifts (B : Base z) (h : InvR z v R) {x y : Int32} : oX5_shifts G (d + 16) [.ref 0, .int x, .int y] z v (fun r v1 => oX6_shifts G (d + 16) [.ref 200, .int x, .int y] z v1 (fun r' v2 => Pr z r r' v2)) := by
  have I := h.1
  have hn := I.D.1
  have hp27 := pow3 I.D.2.1
  refine vc_X5_shifts B (ok_isStretch B I.LC I.D (fun c => nb1 ?_) (fun c => nb0 (vc_X6_shifts B (om_isSpan B I.LM I.D (fun q => absurd q c) (fun _ => nb0 (Pr.mk rfl h))))))
  obtain ⟨i, hi, ei, _⟩ := inR_of c.1
  obtain ⟨j, hj, ej, _⟩ := inR_of c.2.1
  have hij := c.2.2
  subst ei ej
  rw [nIi (by omega), nIi (by omega)] at hij
  obtain ⟨now, hnow⟩ : ∃ now, now = sTop (rg R) i (j - i) := ⟨_, rfl⟩
  have ht := sTop_in (rg R) i (j - i)
  obtain ⟨P, hP⟩ : ∃ P : Nat → Bool, P = fun p => decide (sTop (eG (rD R) p (rg R)) i (j - i) ≠ now) := ⟨_, rfl⟩
  have hPt : ∀ p, P p = true ↔ sTop (eG (rD R) p (rg R)) i (j - i) ≠ now := fun p => by rw [hP]; simp
  have htp : ∀ p, sTop (eG (rD R) p (rg R)) i (j - i) < 100 := fun p => by have := sTop_in (eG (rD R) p (rg R)) i (j - i); omega
  refine ok_firstHighest B I.LC I.D (bI_31 B) I.g I.s (by omega) hj (ok_programs B I.LC I.D ?_)
  rw [← hnow]
  -- the reference
  have model : ∀ u : xS, Jv z u R (sFst P (3 ^ db (rD R))) → oX6_shifts G (d + 16) [.ref 200, .int (nI i), .int (nI j)] z u (fun r' v2 => Pr z (nI (sCnt P (3 ^ db (rD R)))) r' v2) := by
    intro u J1
    refine vc_X6_shifts B (om_isSpan B J1.1.LM I.D (fun _ => nb1 (om_topOf B I.D J1.1.G I.s (by omega) hj (om_ahead B (fun w hA hBk => ?_)))) (fun q => absurd c q))
    rw [← hnow]
    have loop : ∀ (c p : Nat) (u1 : xS), p + c = 3 ^ db (rD R) → AS u u1 → Back u u1 → QS u u1 → aX6_shifts G (d + 16) 32 [some (.ref 200), some (.int (nI i)), some (.int (nI j)), some (.int (nI now)), some (.int (nI (sCnt P p))), some (.int (sFst P p)), some (.int (nI p)), none] [] z u1 (fun r' v2 => Pr z (nI (sCnt P (3 ^ db (rD R)))) r' v2) := by
      intro c
      induction c with
      | zero =>
        intro p u1 hp hA hB hQ
        have : p = 3 ^ db (rD R) := by omega
        subst this
        exact vc_X6_shifts_32 B (om_programs B (hA.lm J1.1.LM) I.D (bt (by rw [i32le]; omega) (om_ask B (Pr.mk rfl (J1.q hQ).done))))
      | succ c ih =>
        intro p u1 hp hA hB hQ
        have hc := sCnt_le P p
        have h1 := htp p
        refine vc_X6_shifts_32 B (om_programs B (hA.lm J1.1.LM) I.D (bf (by rw [i32le, nIi (by omega), nIi (by omega)]; omega) (om_passEvening B (hA.lm J1.1.LM) I.D (J1.1.G.back I.D hB) I.s (by omega) (fun u2 hS2 hG2 _ => om_topOf B I.D hG2 (by rw [sEvG_sm]; exact I.s) (by omega) hj ?_))))
        have hA2 := hA.pass hS2
        rw [nI_1 p, add0]
        refine ⟨fun q => om_back B hA2 (fun u3 hA3 hB3 hQ3 => ?_), fun q => om_back B hA2 (fun u3 hA3 hB3 hQ3 => ?_)⟩
        · have q' : ¬ P p = true := by rw [hPt]; exact fun w => w (nIinj (by omega) (by omega) q)
          have go := ih (p + 1) u3 (by omega) hA3 hB3 hQ3
          rw [sCnt_s, sFst_s, if_neg q', if_neg (fun w => q' w.2), Nat.add_zero] at go
          exact go
        · have q' : P p = true := by rw [hPt]; exact fun w => q (by rw [w])
          have go := ih (p + 1) u3 (by omega) hA3 hB3 hQ3
          rw [sCnt_s, sFst_s, if_pos q', ← nI_1 (sCnt P p)] at go
          refine ⟨fun q2 => ?_, fun q2 => ?_⟩
          · rw [if_neg (fun w => q2 (by rw [w.1]; rfl))] at go
            exact go
          · rw [if_pos ⟨nIinj (b := 0) (by omega) (by omega) q2, q'⟩] at go
            exact go
    exact loop (3 ^ db (rD R)) 0 w (by omega) hA hBk (QS.ofB hA.1 hBk)
  have loop : ∀ (c p : Nat) (u : xS), p + c = 3 ^ db (rD R) → QS v u → aX5_shifts G (d + 16) 47 [some (.ref 0), some (.int (nI i)), some (.int (nI j)), some (.int (nI now)), some (.int (nI (sCnt P p))), some (.int (sFst P p)), some (.int (nI (3 ^ db (rD R)))), some (.int (nI p))] [] z u (fun r0 v1 => oX6_shifts G (d + 16) [.ref 200, .int (nI i), .int (nI j)] z v1 (fun r' v2 => Pr z r0 r' v2)) := by
    intro c
    induction c with
    | zero =>
      intro p u hp hQ
      have : p = 3 ^ db (rD R) := by omega
      subst this
      exact vc_X5_shifts_47 B (bt (by rw [i32le]; omega) (ok_tell B (model _ (Jv.tell (Jv.q h hQ)))))
    | succ c ih =>
      intro p u hp hQ
      have Ju := h.q hQ
      have hc := sCnt_le P p
      have h1 := htp p
      refine vc_X5_shifts_47 B (bf (by rw [i32le, nIi (by omega), nIi (by omega)]; omega) (ok_repeat1 B Ju.1.LC I.D Ju.1.g I.s (by omega) (fun r1 u2 hS2 hG2 => ?_)))
      have Q2 : QS v u2 := hQ.trans (QS.of hS2)
      have J2 := h.q Q2
      have go := ih (p + 1) u2 (by omega) Q2
      rw [sCnt_s, sFst_s] at go
      rw [nI_1 p]
      refine ok_firstHighest B J2.1.LC I.D (bI_71 B) hG2 (by rw [sEvG_sm]; exact I.s) (by omega) hj ⟨fun q => ?_, fun q => ?_⟩
      · have q' : P p = true := by rw [hPt]; exact fun w => q (by rw [w])
        rw [if_pos q', ← nI_1 (sCnt P p)] at go
        refine ⟨fun q2 => ?_, fun q2 => ?_⟩
        · rw [if_neg (fun w => q2 (by rw [w.1]; rfl))] at go
          exact go
        · rw [if_pos ⟨nIinj (b := 0) (by omega) (by omega) q2, q'⟩] at go
          exact go
      · have q' : ¬ P p = true := by rw [hPt]; exact fun w => w (nIinj (by omega) (by omega) q)
        rw [if_neg q', if_neg (fun w => q' w.2), Nat.add_zero] at go
        exact go
  exact loop (3 ^ db (rD R)) 0 v (by omega) (QS.rf v)
theorem pr_asked (B : Base z) (h : InvR z v R) : oX5_asked G (d + 16) [.ref 0] z v (fun r v1 => oX6_asked G (d + 16) [.ref 200] z v1 (fun r' v2 => Pr z r r' v2)) :=
  vc_X5_asked B (vc_X6_asked B (Pr.mk h.2.2.symm h))
theorem pr_finding (B : Base z) (h : InvR z v R) : oX5_finding G (d + 16) [.ref 0] z v (fun r v1 => oX6_finding G (d + 16) [.ref 200] z v1 (fun r' v2 => Pr z r r' v2)) :=
  vc_X5_finding B (vc_X6_finding B (Pr.mk h.2.1.1.symm h))
theorem pr_findings (B : Base z) (h : InvR z v R) {x : Int32} : oX5_findings G (d + 16) [.ref 0, .int x] z v (fun r v1 => oX6_findings G (d + 16) [.ref 200, .int x] z v1 (fun r' v2 => Pr z r r' v2)) := by
  have mbad : ¬ (1 ≤ x.toInt ∧ x.toInt ≤ 5) → oX6_findings G (d + 16) [.ref 200, .int x] z v (fun r' v2 => Pr z (-1) r' v2) := fun hw =>
    vc_X6_findings B (om_in B (fun a b => absurd ⟨by rw [i32_1] at a; exact a, by rw [i32_5] at b; exact b⟩ hw) (fun _ => br0 (Pr.mk rfl h)))
  refine vc_X5_findings B ⟨fun q => mbad (by rw [i32lt, i32_1] at q; omega), fun q => ⟨fun q2 => ?_, fun q2 => mbad (by rw [i32le, i32_5] at q2; omega)⟩⟩
  rw [i32lt, i32_1] at q
  rw [i32le, i32_5] at q2
  obtain ⟨f, ef, ef2, _⟩ := i32nat (x := x) (by omega)
  subst ef
  have vf := vpN (j := f) (n := 6) (by omega) (by omega)
  rw [clN (by omega)]
  refine ⟨vf, vc_X6_findings B (om_in B (fun _ _ => br1 ⟨vf, ?_⟩) (fun a => absurd ⟨by rw [i32_1]; omega, by rw [i32_5]; omega⟩ a))⟩
  rw [clN (by omega)]
  exact Pr.mk (h.2.1.2 f (by omega) (by omega)).symm h
/-- answers of 64 bits -/
abbrev PrL (z : xZ) (r r' : Int64) (v2 : xS) : Prop := r' = r ∧ ∃ R', InvR z v2 R'
theorem PrL.mk {r r' : Int64} (e : r' = r) (h : InvR z v R) : PrL z r r' v := ⟨e, R, h⟩
theorem ok_commonDivisor {Q : Int32 → xS → Prop} (B : Base z) {a b : Nat} (ha : a ≤ 90) (hb : b ≤ 90) (hb0 : 0 < b) (hq : Q (nI (Nat.gcd b a)) v) : oX5_commonDivisor G (d + 1) [.int (nI a), .int (nI b)] z v Q := by
  have i64 : (64 : Int32).toInt = 64 := by decide
  have gp : 0 < Nat.gcd b a := Nat.gcd_pos_of_pos_left _ hb0
  have loop : ∀ (c x y s : Nat), y ≤ c → y + s < 64 → x ≤ 90 → Nat.gcd y x = Nat.gcd b a → aX5_commonDivisor G (d + 1) 7 [some (.int (nI a)), some (.int (nI b)), some (.int (nI x)), some (.int (nI y)), some (.int (nI s)), none] [] z v Q := by
    intro c
    induction c with
    | zero =>
      intro x y s hy hs hx hg
      have y0 : y = 0 := by omega
      subst y0
      rw [Nat.gcd_zero_left] at hg
      refine vc_X5_commonDivisor_7 B (bf (by rw [i32le, i64, nIi (by omega)]; omega) (bt rfl (nt (fun q => by have := nIinj (b := 0) (by omega) (by omega) q; omega) ?_)))
      rw [hg]; exact hq
    | succ c ih =>
      intro x y s hy hs hx hg
      by_cases y0 : y = 0
      · subst y0
        rw [Nat.gcd_zero_left] at hg
        refine vc_X5_commonDivisor_7 B (bf (by rw [i32le, i64, nIi (by omega)]; omega) (bt rfl (nt (fun q => by have := nIinj (b := 0) (by omega) (by omega) q; omega) ?_)))
        rw [hg]; exact hq
      · have n0 : ¬ nI y = 0 := fun q => y0 (nIinj (b := 0) (by omega) (by omega) q)
        have hm := Nat.mod_lt x (show 0 < y by omega)
        refine vc_X5_commonDivisor_7 B (bf (by rw [i32le, i64, nIi (by omega)]; omega) (bf n0 ⟨n0, ?_⟩))
        rw [show nI x - nI x / nI y * nI y = nI (x % y) from pk_rem (by omega) (by omega) (by omega), nI_1]
        refine ih y (x % y) (s + 1) (by omega) (by omega) (by omega) ?_
        rw [← Nat.gcd_rec]
        exact hg
  have step : ∀ (x y s : Nat), s < 64 → x ≤ 90 → y ≤ 90 → 0 < y → aX5_commonDivisor G (d + 1) 7 [some (.int (nI a)), some (.int (nI b)), some (.int (nI y)), some (.int (nI (x % y))), some (.int (nI (s + 1))), none] [] z v Q → aX5_commonDivisor G (d + 1) 7 [some (.int (nI a)), some (.int (nI b)), some (.int (nI x)), some (.int (nI y)), some (.int (nI s)), none] [] z v Q := by
    intro x y s hs hx hy hy0 hgo
    have n0 : ¬ nI y = 0 := fun q => by have := nIinj (b := 0) (by omega) (by omega) q; omega
    refine vc_X5_commonDivisor_7 B (bf (by rw [i32le, i64, nIi (by omega)]; omega) (bf n0 ⟨n0, ?_⟩))
    rw [show nI x - nI x / nI y * nI y = nI (x % y) from pk_rem (by omega) (by omega) (by omega), nI_1]
    exact hgo
  have m1 := Nat.mod_lt a hb0
  refine vc_X5_commonDivisor B (step a b 0 (by decide) ha hb hb0 ?_)
  by_cases z1 : a % b = 0
  · refine loop 90 b (a % b) 1 (by omega) (by omega) hb ?_
    rw [← Nat.gcd_rec]
  · have m2 := Nat.mod_lt b (show 0 < a % b by omega)
    refine step b (a % b) 1 (by decide) hb (by omega) (by omega) ?_
    have h2 : 2 * (b % (a % b)) < b := by
      have hd := Nat.div_add_mod b (a % b)
      have hq : 1 ≤ b / (a % b) := (Nat.le_div_iff_mul_le (by omega)).mpr (by omega)
      have hmul : (a % b) * 1 ≤ (a % b) * (b / (a % b)) := Nat.mul_le_mul_left _ hq
      omega
    refine loop 90 (a % b) (b % (a % b)) 2 (by omega) (by omega) (by omega) ?_
    rw [← Nat.gcd_rec, ← Nat.gcd_rec]
theorem gcd_n0 {a b : Nat} (hb : b ≤ 90) (hb0 : 0 < b) : ¬ nI (Nat.gcd b a) = 0 := fun q => by
  have h1 : 0 < Nat.gcd b a := Nat.gcd_pos_of_pos_left _ hb0
  have h2 := Nat.gcd_le_left a hb0
  have := nIinj (b := 0) (by omega) (by omega) q
  omega
theorem sHigh_le {D : xD} {g : Nat → Nat} (hs : sm g (dn D) ≤ 90) : sHigh (dn D) g ≤ 90 := by
  unfold sHigh
  split
  · omega
  · have := sTop_in g 0 (dn D - 1)
    exact Nat.le_trans (sm_le (by omega)) hs
theorem pr_upper (B : Base z) (h : InvR z v R) : oX5_upper G (d + 16) [.ref 0] z v (fun r v1 => oX6_upper G (d + 16) [.ref 200] z v1 (fun r' v2 => PrL z r r' v2)) := by
  have I := h.1
  have hs := I.s
  have hh := sHigh_le hs
  refine vc_X5_upper B (ok_allInches B I.LC I.D I.g ⟨fun q => ?_, fun q => ?_⟩)
  · have h0 : 0 < sm (rg R) (dn (rD R)) := by
      rcases Nat.eq_zero_or_pos (sm (rg R) (dn (rD R))) with w | w
      · exact absurd (by rw [w]; rfl) q
      · exact w
    refine ok_highestOf B I.LC I.D (bI_31 B) I.g I.s (ok_commonDivisor B hh hs h0 ⟨gcd_n0 hs h0, ?_⟩)
    exact vc_X6_upper B (om_allHigh B I.LM I.D I.G (nt q (om_highestNow B I.LM I.D I.G I.s (om_highestNow B I.LM I.D I.G I.s (om_divisor B (by omega) (by omega) ⟨gcd_n0 hs h0, PrL.mk rfl h⟩)))))
  · exact vc_X6_upper B (om_allHigh B I.LM I.D I.G (nf q (PrL.mk rfl h)))
theorem pr_lower (B : Base z) (h : InvR z v R) : oX5_lower G (d + 16) [.ref 0] z v (fun r v1 => oX6_lower G (d + 16) [.ref 200] z v1 (fun r' v2 => PrL z r r' v2)) := by
  have I := h.1
  have hs := I.s
  have hh := sHigh_le hs
  refine vc_X5_lower B (ok_allInches B I.LC I.D I.g ⟨fun q => ?_, fun q => ?_⟩)
  · have h0 : 0 < sm (rg R) (dn (rD R)) := by
      rcases Nat.eq_zero_or_pos (sm (rg R) (dn (rD R))) with w | w
      · exact absurd (by rw [w]; rfl) q
      · exact w
    refine ok_highestOf B I.LC I.D (bI_31 B) I.g I.s (ok_commonDivisor B hh hs h0 ⟨gcd_n0 hs h0, ?_⟩)
    exact vc_X6_lower B (om_allHigh B I.LM I.D I.G (nt q (om_highestNow B I.LM I.D I.G I.s (om_divisor B (by omega) (by omega) ⟨gcd_n0 hs h0, PrL.mk rfl h⟩))))
  · exact vc_X6_lower B (om_allHigh B I.LM I.D I.G (nf q (PrL.mk rfl h)))
end PVAL
