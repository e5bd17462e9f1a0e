/-! pairs: far, season -/
section PFAR
variable {G : xG} {d : Nat} {z : xZ} {v : xS} {R : xR}
/-- what is carried, how far in all -/
def sW (c : Nat → Int32) (g : Nat → Nat) : Nat → Int32 × Int32
  | 0 => (0, 0)
  | x + 1 => ((sW c g x).1 + (nI (g x) - c x), (sW c g x).2 + (if 0 ≤ (sW c g x).1 + (nI (g x) - c x) then (sW c g x).1 + (nI (g x) - c x) else 0 - ((sW c g x).1 + (nI (g x) - c x))))
theorem pr_far (B : Base z) (h : InvR z v R) {x : Int32} : oX5_far G (d + 16) [.ref 0, .int x] z v (fun r v1 => oX6_far G (d + 16) [.ref 200, .int x] z v1 (fun r' v2 => Pr z r r' v2)) := by
  have I := h.1
  have hn := I.D.1
  refine vc_X5_far B (pr_ground (d := d + 1) (M := fun u Q => oX6_far G (d + 16) [.ref 200, .int x] z u Q) B h (fun u Q hq => vc_X6_far B (hq _ (fun r w hr hqr => bf hr hqr))) (fun r0 v1 h0 hm => bf h0 hm) (fun r hr e n0 h3 h203 h4 => bt rfl ?_))
  subst e
  obtain ⟨c, hc⟩ : ∃ c : Nat → Int32, c = fun k => v.1 204 (40 * r + k) := ⟨_, rfl⟩
  have h4' : ∀ k, k < dn (rD R) → v.1 (4 + r) k = c k := fun k hk => by rw [hc]; exact h4 k hk
  have eC : (v.1 30 0).toInt = dn (rD R) := by rw [I.LC.1]; exact nIi (by omega)
  -- the reference comes to its row
  have model : ∀ (u : xS) (Q : Int32 → xS → Prop), LM u (rD R) → u.1 203 = v.1 203 → aX6_far G (d + 16) 17 [some (.ref 200), some (.int (nI r)), some (.int 0), some (.long 0), none, some (.int 0), none, none] [] z u Q → oX6_far G (d + 16) [.ref 200, .int (nI r)] z u Q := by
    intro u Q hL g3 hgo
    refine vc_X6_far B (om_askedPlayed B hL I.D (fun q => absurd (inR_nI hr (by omega)) q) (fun _ q => absurd q n0) (fun r' hr' e' _ q => ?_) (fun r' hr' e' _ _ q => ?_) (fun r' hr' e' _ q => bt (by decide) hgo))
    · rw [g3, ← nIinj (by omega) (by omega) e', h203, nIi (by omega)] at q; omega
    · rw [g3, ← nIinj (by omega) (by omega) e'] at q; exact absurd h203 q
  -- the reference's first walk, as far as nothing is below 0
  have walk : ∀ (u : xS) (Q : Int32 → xS → Prop), LM u (rD R) → u.1 204 = v.1 204 → ∀ (k x : Nat), x + k ≤ dn (rD R) → (∀ y, y < x + k → 0 ≤ (c y).toInt) → aX6_far G (d + 16) 17 [some (.ref 200), some (.int (nI r)), some (.int 0), some (.long (sSum c (x + k))), none, some (.int (nI (x + k))), none, none] [] z u Q → aX6_far G (d + 16) 17 [some (.ref 200), some (.int (nI r)), some (.int 0), some (.long (sSum c x)), none, some (.int (nI x)), none, none] [] z u Q := by
    intro u Q hL g4 k
    induction k with
    | zero => intro x _ _ hgo; exact hgo
    | succ k ih =>
      intro x hx hy hgo
      have e8 : (u.1 200 8).toInt = dn (rD R) := by rw [hL.1]; exact nIi (by omega)
      refine vc_X6_far_17 B (bf (by rw [i32le, e8, nIi (by omega)]; omega) (om_rowAt B hr (by omega) ?_))
      rw [g4]
      have ec : v.1 204 (40 * r + x) = c x := by rw [hc]
      rw [ec]
      refine bt (by rw [i32le, i32_0]; exact hy x (by omega)) (om_rowAt B hr (by omega) ?_)
      rw [g4, ec, nI_1]
      refine ih (x + 1) (by omega) (fun y hyy => hy y (by omega)) ?_
      rw [show x + 1 + k = x + (k + 1) by omega]
      exact hgo
  have neg : ∀ x, x < dn (rD R) → (∀ y, y < x → 0 ≤ (c y).toInt) → (c x).toInt < 0 → oX5_find G (d + 15) [.ref 0, .int 3] z v (fun r0 v1 => oX6_far G (d + 16) [.ref 200, .int (nI r)] z v1 (fun r' v2 => Pr z r0 r' v2)) := by
    intro x hx hy hneg
    have J := h.find (f := 3) (by decide) (by decide)
    have g4 : (fnd v 3).1 204 = v.1 204 := fnd_ne (by decide) (by decide)
    refine ok_find (f := 3) B (by decide) (by decide) (model _ _ J.1.LM (fnd_ne (by decide) (by decide)) (walk _ _ J.1.LM g4 x 0 (by omega) (fun y hyy => hy y (by omega)) ?_))
    rw [Nat.zero_add]
    have e8 : ((fnd v 3).1 200 8).toInt = dn (rD R) := by rw [J.1.LM.1]; exact nIi (by omega)
    refine vc_X6_far_17 B (bf (by rw [i32le, e8, nIi (by omega)]; omega) (om_rowAt B hr (by omega) ?_))
    rw [g4]
    have ec : v.1 204 (40 * r + x) = c x := by rw [hc]
    rw [ec]
    exact bf (by rw [i32le, i32_0]; omega) (om_meet (f := 3) B (by decide) (Pr.mk rfl J.done))
  have loop : ∀ (k x : Nat), x + k = dn (rD R) → (∀ y, y < x → 0 ≤ (c y).toInt) → aX5_far G (d + 16) 14 [some (.ref 0), some (.int (nI r)), some (.int 0), some (.int (nI x)), none, none] [] z v (fun r0 v1 => oX6_far G (d + 16) [.ref 200, .int (nI r)] z v1 (fun r' v2 => Pr z r0 r' v2)) := by
    intro k
    induction k with
    | zero =>
      intro x hx hy
      have : x = dn (rD R) := by omega
      subst this
      refine vc_X5_far_14 B (bt (by rw [i32le, eC, nIi (by omega)]; omega) (ok_sumOf B (bS_1 B) (by decide) (by decide) hr (n := dn (rD R)) h3 (by omega) (ok_allInches B I.LC I.D I.g ?_)))
      have esum : sSum (v.1 (1 + 3 + r)) (dn (rD R)) = sSum c (dn (rD R)) := by
        refine sSum_congr (fun k hk => ?_)
        rw [show 1 + 3 + r = 4 + r by omega]
        exact h4' k hk
      rw [esum]
      refine ⟨fun q => ?_, fun q => ?_⟩
      · have cl : ∀ (k x : Nat), x + k = dn (rD R) → aX5_far G (d + 16) 83 [some (.ref 0), some (.int (nI r)), some (.int 0), some (.int (sW c (rg R) x).1), some (.int (sW c (rg R) x).2), some (.int (nI x))] [] z v (fun r0 v1 => oX6_far G (d + 16) [.ref 200, .int (nI r)] z v1 (fun r' v2 => Pr z r0 r' v2)) := by
          intro k
          induction k with
          | zero =>
            intro x hx
            have : x = dn (rD R) := by omega
            subst this
            refine vc_X5_far_83 B (bt (by rw [i32le, eC, nIi (by omega)]; omega) (model _ _ I.LM rfl (walk v _ I.LM rfl (dn (rD R)) 0 (by omega) (fun y hyy => hy y (by omega)) ?_)))
            rw [Nat.zero_add]
            have e8 : (v.1 200 8).toInt = dn (rD R) := by rw [I.LM.1]; exact nIi (by omega)
            refine vc_X6_far_17 B (bt (by rw [i32le, e8, nIi (by omega)]; omega) (om_allHigh B I.LM I.D I.G (bt q ?_)))
            have ml : ∀ (k x : Nat), x + k = dn (rD R) → aX6_far G (d + 16) 84 [some (.ref 200), some (.int (nI r)), some (.int 0), some (.long (sSum c (dn (rD R)))), none, some (.int (sW c (rg R) x).1), some (.int (sW c (rg R) x).2), some (.int (nI x))] [] z v (fun r' v2 => Pr z (sW c (rg R) (dn (rD R))).2 r' v2) := by
              intro k
              induction k with
              | zero =>
                intro x hx
                have : x = dn (rD R) := by omega
                subst this
                exact vc_X6_far_84 B (bt (by rw [i32le, e8, nIi (by omega)]; omega) (Pr.mk rfl h))
              | succ k ih =>
                intro x hx
                have go := ih (x + 1) (by omega)
                rw [sW] at go
                dsimp only at go
                refine vc_X6_far_84 B (bf (by rw [i32le, e8, nIi (by omega)]; omega) ⟨vpN (by omega) (by omega), om_rowAt B hr (by omega) ?_⟩)
                have ec : v.1 204 (40 * r + x) = c x := by rw [hc]
                rw [clN (by omega), I.G x (by omega), ec, nI_1]
                refine om_size B (fun w => ?_) (fun w => ?_)
                · rw [if_pos (by rw [i32le, i32_0]; exact w)] at go
                  exact go
                · rw [if_neg (by rw [i32le, i32_0]; omega), Int32.zero_sub] at go
                  exact go
            exact ml (dn (rD R)) 0 (by omega)
          | succ k ih =>
            intro x hx
            have go := ih (x + 1) (by omega)
            rw [sW] at go
            dsimp only at go
            refine vc_X5_far_83 B (bf (by rw [i32le, eC, nIi (by omega)]; omega) ⟨vpN (by omega) (by omega), ok_getN B (bS_1 B) I.W1 hr (n := dn (rD R)) h3 (by omega) (by omega) ?_⟩)
            rw [clN (by omega), I.g x (by omega), show 1 + 3 + r = 4 + r by omega, h4' x (by omega), nI_1]
            exact go
        exact cl (dn (rD R)) 0 (by omega)
      · have J := h.find (f := 4) (by decide) (by decide)
        have g4 : (fnd v 4).1 204 = v.1 204 := fnd_ne (by decide) (by decide)
        refine ok_find (f := 4) B (by decide) (by decide) (model _ _ J.1.LM (fnd_ne (by decide) (by decide)) (walk _ _ J.1.LM g4 (dn (rD R)) 0 (by omega) (fun y hyy => hy y (by omega)) ?_))
        rw [Nat.zero_add]
        have e8 : ((fnd v 4).1 200 8).toInt = dn (rD R) := by rw [J.1.LM.1]; exact nIi (by omega)
        exact vc_X6_far_17 B (bt (by rw [i32le, e8, nIi (by omega)]; omega) (om_allHigh B J.1.LM I.D J.1.G (bf q (om_meet (f := 4) B (by decide) (Pr.mk rfl J.done)))))
    | succ k ih =>
      intro x hx hy
      refine vc_X5_far_14 B (bf (by rw [i32le, eC, nIi (by omega)]; omega) (ok_getN B (bS_1 B) I.W1 hr (n := dn (rD R)) h3 (by omega) (by omega) ?_))
      rw [show 1 + 3 + r = 4 + r by omega, h4' x (by omega), nI_1]
      refine ⟨fun q => ih (x + 1) (by omega) (fun y hyy => ?_), fun q => neg x (by omega) hy ?_⟩
      · by_cases hyx : y = x
        · rw [hyx]; rw [i32le, i32_0] at q; exact q
        · exact hy y (by omega)
      · rw [i32le, i32_0] at q; omega
  exact loop (dn (rD R)) 0 (by omega) (fun y hy => absurd hy (Nat.not_lt_zero _))
end PFAR
