/-! pairs: heights, on -/
theorem WS.upd1 {v v1 : xS} {s p m r n : Nat} (W : WS v s p m) (hn : n ≤ m) (h0 : v1.1 s = v.1 s) (h1 : v1.1 (s + 2) = upd (v.1 (s + 2)) r (nI n)) : WS v1 s p m := by
  have hm := W.1.2
  refine ⟨W.1, by rw [h0]; exact W.2.1, fun q hq => ?_⟩
  rw [h1]
  unfold upd
  split
  · rw [nIi (by omega)]; omega
  · exact W.2.2 q hq
section PON
variable {G : xG} {d : Nat} {z : xZ} {v : xS} {R : xR}
theorem pr_heights (B : Base z) (h : InvR z v R) {x : Int32} : oX5_heights G (d + 16) [.ref 0, .int x] z v (fun r v1 => oX6_heights G (d + 16) [.ref 200, .int x] z v1 (fun r' v2 => Pr z r r' v2)) := by
  have I := h.1
  have hn := I.D.1
  have S := bS_1 B
  by_cases cx : inR x 6
  case neg => exact vc_X5_heights B (ok_names B S (by decide) (fun q => absurd q cx) (fun _ => nb0 (vc_X6_heights B (om_isRow B (fun q => absurd q cx) (fun _ => nb0 (Pr.mk rfl h))))))
  obtain ⟨r, hr, er, _⟩ := inR_of cx
  subst er
  refine vc_X5_heights B (ok_names B S (by decide) (fun _ => nb1 ?_) (fun q => absurd cx q))
  rw [I.LC.1]
  refine ok_open B S I.W1 hr (by omega) (fun v3 hS3 a1 a2 => ?_)
  have W3 : WS v3 1 6 40 := WS.upd1 I.W1 (r := r) (n := dn (rD R)) (by omega) (hS3.2 1 (by simp; omega)) a1
  have s3 : v3.1 (1 + 2) r = nI (dn (rD R)) := by rw [a1]; simp [upd]
  -- the reference
  have model : ∀ v1 : xS, Same [1 + 2, 1 + 3 + r] v v1 → v1.1 (1 + 2) = upd (v.1 (1 + 2)) r (nI (dn (rD R))) → (∀ k, k < dn (rD R) → v1.1 (1 + 3 + r) k = nI (rg R k)) → oX6_heights G (d + 16) [.ref 200, .int (nI r)] z v1 (fun r' v2 => Pr z (nI (sm (rg R) (dn (rD R)))) r' v2) := by
    intro v1 hS b1 b2
    have k1 : ∀ a, 200 ≤ a → v1.1 a = v.1 a := fun a ha => hS.2 a (by simp; omega)
    have M1 := I.2.2.2.1.row I.D k1
    refine vc_X6_heights B (om_isRow B (fun _ => nb1 ?_) (fun q => absurd cx q))
    rw [M1.1.1]
    refine om_row B (fun q => absurd ⟨cx, by rw [nIi (by omega)]; omega⟩ q) (fun _ _ _ q => by rw [nIi (by omega)] at q; omega) (fun r' m' hr' hm' e1 e2 v4 hS4 c1 c2 c3 => ?_)
    have er : r' = r := (nIinj (by omega) (by omega) e1).symm
    have em : m' = dn (rD R) := (nIinj (by omega) (by omega) e2).symm
    subst er em
    have loop : ∀ (c i : Nat) (w : xS), i + c = dn (rD R) → Same [203, 204] v1 w → w.1 203 = upd (v1.1 203) r' (nI (dn (rD R))) → (∀ k, k < i → w.1 204 (40 * r' + k) = nI (rg R k)) → (∀ j, (j < 40 * r' ∨ 40 * r' + 40 ≤ j) → w.1 204 j = v1.1 204 j) → aX6_heights G (d + 16) 21 [some (.ref 200), some (.int (nI r')), some (.int (nI i))] [] z w (fun r' v2 => Pr z (nI (sm (rg R) (dn (rD R)))) r' v2) := by
      intro c
      induction c with
      | zero =>
        intro i w hi hSw d1 d2 d3
        have : i = dn (rD R) := by omega
        subst this
        have kw : ∀ a, a ≠ 203 → a ≠ 204 → w.1 a = v1.1 a := fun a q1 q2 => hSw.2 a (by simp; omega)
        have Lw : LM w (rD R) := M1.lm.same hSw
        have Gw : Gd w 210 (rD R) (rg R) := fun y hy => by rw [kw 210 (by decide) (by decide)]; exact M1.2.2.1 y hy
        refine vc_X6_heights_21 B (bt (by rw [Lw.1, i32le]; omega) (om_allHigh B Lw I.D Gw (Pr.mk rfl (h.set1 (fun a ha => ?_) ?_))))
        · simp [rowsL] at ha
          rw [kw a (by omega) (by omega), hS.2 a (by simp; omega)]
        · refine I.rows.put (r := r') (n := dn (rD R)) (by omega) (by rw [kw 1 (by decide) (by decide), hS.2 1 (by simp; omega)]) (by rw [kw _ (by decide) (by decide)]; exact b1) (by rw [d1, k1 203 (by decide)]) (fun q hq hne => by rw [kw _ (by omega) (by omega), hS.2 _ (by simp; omega)]) (fun j hj => by rw [d3 j hj, k1 204 (by decide)]) (fun k hk => ?_)
          rw [kw _ (by omega) (by omega), b2 k hk, d2 k hk]
      | succ c ih =>
        intro i w hi hSw d1 d2 d3
        have kw : ∀ a, a ≠ 203 → a ≠ 204 → w.1 a = v1.1 a := fun a q1 q2 => hSw.2 a (by simp; omega)
        have Lw : LM w (rD R) := M1.lm.same hSw
        refine vc_X6_heights_21 B (bf (by rw [Lw.1, i32le, nIi (by omega), nIi (by omega)]; omega) ⟨vpN (by omega) (by omega), om_setRow B hr (by omega) ?_⟩)
        rw [clN (by omega), kw 210 (by decide) (by decide), M1.2.2.1 i (by omega), nI_1]
        refine ih (i + 1) _ (by omega) (hSw.wV (by simp)) (by rw [wV_ne (by decide)]; exact d1) (fun k hk => ?_) (fun j hj => ?_)
        · by_cases hki : k = i
          · rw [hki, wV_at]
          · rw [wV_other _ _ _ _ _ (by omega)]; exact d2 k (by omega)
        · rw [wV_other _ _ _ _ _ (by omega)]; exact d3 j hj
    exact loop (dn (rD R)) 0 v4 (by omega) hS4 c1 (fun k hk => absurd hk (Nat.not_lt_zero _)) c3
  have loop : ∀ (c i : Nat) (w : xS), i + c = dn (rD R) → Same [1 + 2, 1 + 3 + r] v w → w.1 (1 + 2) = upd (v.1 (1 + 2)) r (nI (dn (rD R))) → (∀ k, k < i → w.1 (1 + 3 + r) k = nI (rg R k)) → aX5_heights G (d + 16) 31 [some (.ref 0), some (.int (nI r)), some (.int (nI i))] [] z w (fun r0 v1 => oX6_heights G (d + 16) [.ref 200, .int (nI r)] z v1 (fun r' v2 => Pr z r0 r' v2)) := by
    intro c
    induction c with
    | zero =>
      intro i w hi hSw b1 b2
      have : i = dn (rD R) := by omega
      subst this
      have kw : ∀ a, 30 ≤ a → w.1 a = v.1 a := fun a q => hSw.2 a (by simp; omega)
      have Cw := I.2.2.1.same30 (fun a q1 q2 => kw a q1)
      exact vc_X5_heights_31 B (bt (by rw [Cw.1.1, i32le]; omega) (ok_allInches B Cw.lc I.D Cw.2.2.1 (model w hSw b1 b2)))
    | succ c ih =>
      intro i w hi hSw b1 b2
      have kw : ∀ a, 30 ≤ a → w.1 a = v.1 a := fun a q => hSw.2 a (by simp; omega)
      have Cw := I.2.2.1.same30 (fun a q1 q2 => kw a q1)
      have Ww : WS w 1 6 40 := WS.upd1 I.W1 (r := r) (n := dn (rD R)) (by omega) (hSw.2 1 (by simp; omega)) b1
      have sw : w.1 (1 + 2) r = nI (dn (rD R)) := by rw [b1]; simp [upd]
      refine vc_X5_heights_31 B (bf (by rw [Cw.1.1, i32le, nIi (by omega), nIi (by omega)]; omega) ⟨vpN (by omega) (by omega), ok_set B S Ww hr (by rw [sw, nIi (by omega)]; omega) ?_⟩)
      rw [clN (by omega), show (31 : Nat) = 30 + 1 from rfl, Cw.2.2.1 i (by omega), nI_1]
      refine ih (i + 1) _ (by omega) (hSw.wV (by simp)) (by rw [wV_ne (by omega)]; exact b1) (fun k hk => ?_)
      by_cases hki : k = i
      · rw [hki, wV_at]
      · rw [wV_other _ _ _ _ _ hki]; exact b2 k (by omega)
  exact loop (dn (rD R)) 0 v3 (by omega) hS3 a1 (fun k hk => absurd hk (Nat.not_lt_zero _))
/-- a land becomes like another -/
theorem ok_becomeLike {Q : xS → Prop} {t o : Nat} {R' : xR} (B : Base z) (ht : xLandAt z t) (ho : xLandAt z o) (hto : t + 9 ≤ o ∨ o + 9 ≤ t) (hO : OKR R') (hC : CR v o R') (hq : ∀ v1, (∀ a, (a < t ∨ t + 9 ≤ a) → v1.1 a = v.1 a) → v1.2 = v.2 → CR v1 t R' → Q v1) : oX1_becomeLike G (d + 1) [.ref t, .ref o] z v Q := by
  refine vc_X1_becomeLike B ht ho (fun v1 e1 v2 e2 v3 e3 v4 e4 v5 e5 v6 e6 v7 e7 v8 e8 v9 e9 v10 e10 v11 e11 v12 e12 => ?_)
  rw [cl0, cl10] at e5
  rw [cl0, cl3] at e6 e7 e8 e9
  rw [cl0, cl60] at e10
  rw [cl0, cl600] at e11
  rw [cl0, cl180] at e12
  have r4 : ∀ a, a ≠ t → v4.1 a = v.1 a := fun a ha => by rw [e4, wV_ne ha, e3, wV_ne ha, e2, wV_ne ha, e1, wV_ne ha]
  have r5 : ∀ a, a ≠ t + 1 → v5.1 a = v4.1 a := fun a ha => by rw [e5, wA_row, if_neg ha]
  have r6 : ∀ a, a ≠ t + 4 → v6.1 a = v5.1 a := fun a ha => by rw [e6, wA_row, if_neg ha]
  have r7 : ∀ a, a ≠ t + 2 → v7.1 a = v6.1 a := fun a ha => by rw [e7, wA_row, if_neg ha]
  have r8 : ∀ a, a ≠ t + 3 → v8.1 a = v7.1 a := fun a ha => by rw [e8, wA_row, if_neg ha]
  have r9 : ∀ a, a ≠ t + 5 → v9.1 a = v8.1 a := fun a ha => by rw [e9, wA_row, if_neg ha]
  have r10 : ∀ a, a ≠ t + 6 → v10.1 a = v9.1 a := fun a ha => by rw [e10, wA_row, if_neg ha]
  have r11 : ∀ a, a ≠ t + 7 → v11.1 a = v10.1 a := fun a ha => by rw [e11, wA_row, if_neg ha]
  have r12 : ∀ a, a ≠ t + 8 → v12.1 a = v11.1 a := fun a ha => by rw [e12, wA_row, if_neg ha]
  have r1 : ∀ a, a ≠ t → v1.1 a = v.1 a := fun a ha => by rw [e1, wV_ne ha]
  have r2 : ∀ a, a ≠ t → v2.1 a = v.1 a := fun a ha => by rw [e2, wV_ne ha, r1 a ha]
  have r3 : ∀ a, a ≠ t → v3.1 a = v.1 a := fun a ha => by rw [e3, wV_ne ha, r2 a ha]
  have z9 : ∀ a, a ≠ t → a ≠ t + 1 → a ≠ t + 4 → a ≠ t + 2 → a ≠ t + 3 → v8.1 a = v.1 a := fun a q0 q1 q4 q2 q3 => by rw [r8 a q3, r7 a q2, r6 a q4, r5 a q1, r4 a q0]
  have n2 : v12.2 = v.2 := by rw [e12, e11, e10, e9, e8, e7, e6, e5, e4, e3, e2, e1]; rfl
  have k0 : v12.1 t = v4.1 t := by rw [r12 _ (by omega), r11 _ (by omega), r10 _ (by omega), r9 _ (by omega), r8 _ (by omega), r7 _ (by omega), r6 _ (by omega), r5 _ (by omega)]
  have f0 : v12.1 t 0 = v.1 o 0 := by rw [k0, e4, wV_other _ _ _ _ _ (by decide), e3, wV_other _ _ _ _ _ (by decide), e2, wV_other _ _ _ _ _ (by decide), e1, wV_at]
  have f1 : v12.1 t 1 = v.1 o 1 := by rw [k0, e4, wV_other _ _ _ _ _ (by decide), e3, wV_other _ _ _ _ _ (by decide), e2, wV_at, r1 o (by omega)]
  have f2 : v12.1 t 2 = v.1 o 2 := by rw [k0, e4, wV_other _ _ _ _ _ (by decide), e3, wV_at, r2 o (by omega)]
  have f3 : v12.1 t 3 = v.1 o 3 := by rw [k0, e4, wV_at, r3 o (by omega)]
  have k1 : v12.1 (t + 1) = va_cpy (v.1 (o + 1)) (v.1 (t + 1)) 0 0 10 := by rw [r12 _ (by omega), r11 _ (by omega), r10 _ (by omega), r9 _ (by omega), r8 _ (by omega), r7 _ (by omega), r6 _ (by omega), e5, wA_row, if_pos rfl, r4 _ (by omega), r4 _ (by omega)]
  have k4 : v12.1 (t + 4) = va_cpy (v.1 (o + 4)) (v.1 (t + 4)) 0 0 3 := by rw [r12 _ (by omega), r11 _ (by omega), r10 _ (by omega), r9 _ (by omega), r8 _ (by omega), r7 _ (by omega), e6, wA_row, if_pos rfl, r5 _ (by omega), r5 _ (by omega), r4 _ (by omega), r4 _ (by omega)]
  have k2 : v12.1 (t + 2) = va_cpy (v.1 (o + 2)) (v.1 (t + 2)) 0 0 3 := by rw [r12 _ (by omega), r11 _ (by omega), r10 _ (by omega), r9 _ (by omega), r8 _ (by omega), e7, wA_row, if_pos rfl, r6 _ (by omega), r6 _ (by omega), r5 _ (by omega), r5 _ (by omega), r4 _ (by omega), r4 _ (by omega)]
  have k3 : v12.1 (t + 3) = va_cpy (v.1 (o + 3)) (v.1 (t + 3)) 0 0 3 := by rw [r12 _ (by omega), r11 _ (by omega), r10 _ (by omega), r9 _ (by omega), e8, wA_row, if_pos rfl, r7 _ (by omega), r7 _ (by omega), r6 _ (by omega), r6 _ (by omega), r5 _ (by omega), r5 _ (by omega), r4 _ (by omega), r4 _ (by omega)]
  have k5 : v12.1 (t + 5) = va_cpy (v.1 (o + 5)) (v.1 (t + 5)) 0 0 3 := by rw [r12 _ (by omega), r11 _ (by omega), r10 _ (by omega), e9, wA_row, if_pos rfl, z9 _ (by omega) (by omega) (by omega) (by omega) (by omega), z9 _ (by omega) (by omega) (by omega) (by omega) (by omega)]
  have k6 : v12.1 (t + 6) = va_cpy (v.1 (o + 6)) (v.1 (t + 6)) 0 0 60 := by rw [r12 _ (by omega), r11 _ (by omega), e10, wA_row, if_pos rfl, r9 _ (by omega), r9 _ (by omega), z9 _ (by omega) (by omega) (by omega) (by omega) (by omega), z9 _ (by omega) (by omega) (by omega) (by omega) (by omega)]
  have k7 : v12.1 (t + 7) = va_cpy (v.1 (o + 7)) (v.1 (t + 7)) 0 0 600 := by rw [r12 _ (by omega), e11, wA_row, if_pos rfl, r10 _ (by omega), r10 _ (by omega), r9 _ (by omega), r9 _ (by omega), z9 _ (by omega) (by omega) (by omega) (by omega) (by omega), z9 _ (by omega) (by omega) (by omega) (by omega) (by omega)]
  have k8 : v12.1 (t + 8) = va_cpy (v.1 (o + 8)) (v.1 (t + 8)) 0 0 180 := by rw [e12, wA_row, if_pos rfl, r11 _ (by omega), r11 _ (by omega), r10 _ (by omega), r10 _ (by omega), r9 _ (by omega), r9 _ (by omega), z9 _ (by omega) (by omega) (by omega) (by omega) (by omega), z9 _ (by omega) (by omega) (by omega) (by omega) (by omega)]
  obtain ⟨hD, _, h60, _⟩ := hO
  have hn := hD.1
  have hb := hD.2.1
  obtain ⟨⟨c0, c1, c2, c3⟩, cb, cc, cd⟩ := hC
  refine hq v12 (fun a ha => ?_) n2 ⟨⟨f0.trans c0, f1.trans c1, f2.trans c2, f3.trans c3⟩, fun i hi => ?_, fun x hx => ?_, fun k hk => ⟨?_, fun x hx => ?_, fun i hi => ?_⟩⟩
  · rw [r12 _ (by omega), r11 _ (by omega), r10 _ (by omega), r9 _ (by omega), z9 _ (by omega) (by omega) (by omega) (by omega) (by omega)]
  · rw [k4, k2, k3, k5, cpyN (by omega), cpyN (by omega), cpyN (by omega), cpyN (by omega)]; exact cb i hi
  · rw [k1, cpyN (by omega)]; exact cc x hx
  · rw [k6, cpyN (by omega)]; exact (cd k hk).1
  · rw [k7, cpyN (by omega)]; exact (cd k hk).2.1 x hx
  · rw [k8, cpyN (by omega)]; exact (cd k hk).2.2 i hi
theorem i32_60 : (60 : Int32).toInt = 60 := by decide
theorem i32_840 : (840 : Int32).toInt = 840 := by decide
/-- the reference goes on from a kept land -/
theorem om_onGo {Q : Int32 → xS → Prop} {R' : xR} {j : Nat} (B : Base z) (hj : j < 3) (hO : OKR R') (hM : MR v R) (hL : LK (rD R) (rD R')) (hK : KR v j R') (hq : ∀ v1, (∀ a, a ∉ [200, 210, 212, 214, 225, 226] → v1.1 a = v.1 a) → (∀ f, f ≠ 24 → f ≠ 15 → v1.1 200 f = v.1 200 f) → MR v1 R' → Q (nI (re R')) v1) : ∀ v5 : xS, v5 = wV v 200 24 (v.1 227 (920 * j)) → ∀ v7 : xS, v7 = wV v5 200 15 (v5.1 227 (920 * j + 1)) → aX6_on G (d + 2) 58 [some (.ref 200), some (.int (nI j)), some (.int (nI (920 * j))), some (.int 0)] [] z v7 Q := by
  intro v5 e5 v7 e7
  obtain ⟨hD, _, h60, _⟩ := hO
  have hn := hD.1
  have hb := hD.2.1
  obtain ⟨⟨q0, q1⟩, qb, qc, qd⟩ := hK
  have a7 : ∀ a, a ≠ 200 → v7.1 a = v.1 a := fun a ha => by rw [e7, wV_ne ha, e5, wV_ne ha]
  have f24 : v7.1 200 24 = nI (re R') := by rw [e7, wV_other _ _ _ _ _ (by decide), e5, wV_at]; exact q0
  have f15 : v7.1 200 15 = nI (dF (rD R')) := by rw [e7, wV_at, e5, wV_ne (by decide)]; exact q1
  have f7 : ∀ f, f ≠ 24 → f ≠ 15 → v7.1 200 f = v.1 200 f := fun f w1 w2 => by rw [e7, wV_other _ _ _ _ _ w2, e5, wV_other _ _ _ _ _ w1]
  have ee : ∀ c k : Nat, nI (920 * j) + nI c + nI k = nI (920 * j + c + k) := fun c k => by rw [nI_add, nI_add]
  have l129 : ∀ (c k : Nat) (w : xS), k + c = 840 → (∀ a, a ∉ [210, 212, 214, 225, 226] → w.1 a = v7.1 a) → (∀ i, i < 3 → w.1 212 i = v.1 227 (920 * j + 2 + i)) → (∀ x, x < 10 → w.1 210 x = v.1 227 (920 * j + 5 + x)) → (∀ i, i < 3 → w.1 214 i = v.1 227 (920 * j + 5 + 10 + i)) → (∀ e, e < 60 → w.1 225 e = v.1 227 (920 * j + 20 + e)) → (∀ e, e < k → w.1 226 e = v.1 227 (920 * j + 80 + e)) → aX6_on G (d + 2) 129 [some (.ref 200), some (.int (nI j)), some (.int (nI (920 * j))), some (.int (nI k))] [] z w Q := by
    intro c
    induction c with
    | zero =>
      intro k w hk a1 a2 a3 a4 a5 a6
      have : k = 840 := by omega
      subst this
      refine vc_X6_on_129 B (bt (by decide) ?_)
      rw [a1 200 (by decide), f24]
      refine hq w (fun a ha => ?_) (fun f w1 w2 => by rw [a1 200 (by decide)]; exact f7 f w1 w2) ⟨⟨?_, ?_, ?_, ?_⟩, fun i hi => ?_, fun x hx => ?_, fun e he => ⟨?_, fun x hx => ?_, fun i hi => ?_⟩⟩
      · simp at ha
        rw [a1 a (by simp; omega), a7 a (by omega)]
      · rw [a1 200 (by decide), f7 8 (by decide) (by decide), hM.1.1, hL.1]
      · rw [a1 200 (by decide), f7 9 (by decide) (by decide), hM.1.2.1, hL.2.1]
      · rw [a1 200 (by decide)]; exact f15
      · rw [a1 200 (by decide)]; exact f24
      · have hi' : i < db (rD R) := by rw [← hL.2.1]; exact hi
        have m := hM.2.1 i hi'
        have l := hL.2.2 i hi'
        rw [a1 211 (by decide), a1 213 (by decide), a7 211 (by decide), a7 213 (by decide), a2 i (by omega), a4 i (by omega), m.1, m.2.2.1, l.1, l.2]
        exact ⟨rfl, (qb i hi).1, rfl, (qb i hi).2⟩
      · rw [a3 x (by omega)]; exact qc x hx
      · rw [a5 e (by omega)]; exact (qd e he).1
      · rw [a6 _ (by omega)]; exact (qd e he).2.1 x hx
      · rw [a6 _ (by omega)]; exact (qd e he).2.2 i hi
    | succ c ih =>
      intro k w hk a1 a2 a3 a4 a5 a6
      refine vc_X6_on_129 B (bf (by rw [i32le, i32_840, nIi (by omega)]; omega) ?_)
      rw [show (80 : Int32) = nI 80 from rfl, ee, nI_1]
      refine ⟨vpN (by omega) (by omega), vpN (by omega) (by omega), fun w2 e2 => ?_⟩
      rw [clN (by omega), clN (by omega), a1 227 (by decide), a7 227 (by decide)] at e2
      have r2 : ∀ a, a ≠ 226 → w2.1 a = w.1 a := fun a ha => by rw [e2, wV_ne ha]
      refine ih (k + 1) w2 (by omega) (fun a ha => by rw [r2 a (by simp at ha; omega)]; exact a1 a ha) (fun i hi => by rw [r2 212 (by decide)]; exact a2 i hi) (fun x hx => by rw [r2 210 (by decide)]; exact a3 x hx) (fun i hi => by rw [r2 214 (by decide)]; exact a4 i hi) (fun e he => by rw [r2 225 (by decide)]; exact a5 e he) (fun e he => ?_)
      rw [e2]
      by_cases hek : e = k
      · rw [hek, wV_at]
      · rw [wV_other _ _ _ _ _ hek]; exact a6 e (by omega)
  have l98 : ∀ (c k : Nat) (w : xS), k + c = 60 → (∀ a, a ∉ [210, 212, 214, 225] → w.1 a = v7.1 a) → (∀ i, i < 3 → w.1 212 i = v.1 227 (920 * j + 2 + i)) → (∀ x, x < 10 → w.1 210 x = v.1 227 (920 * j + 5 + x)) → (∀ i, i < 3 → w.1 214 i = v.1 227 (920 * j + 5 + 10 + i)) → (∀ e, e < k → w.1 225 e = v.1 227 (920 * j + 20 + e)) → aX6_on G (d + 2) 98 [some (.ref 200), some (.int (nI j)), some (.int (nI (920 * j))), some (.int (nI k))] [] z w Q := by
    intro c
    induction c with
    | zero =>
      intro k w hk a1 a2 a3 a4 a5
      have : k = 60 := by omega
      subst this
      exact vc_X6_on_98 B (bt (by decide) (l129 840 0 w rfl (fun a ha => a1 a (by simp at ha ⊢; omega)) a2 a3 a4 a5 (fun e he => absurd he (Nat.not_lt_zero _))))
    | succ c ih =>
      intro k w hk a1 a2 a3 a4 a5
      refine vc_X6_on_98 B (bf (by rw [i32le, i32_60, nIi (by omega)]; omega) ?_)
      rw [show (20 : Int32) = nI 20 from rfl, ee, nI_1]
      refine ⟨vpN (by omega) (by omega), vpN (by omega) (by omega), fun w2 e2 => ?_⟩
      rw [clN (by omega), clN (by omega), a1 227 (by decide), a7 227 (by decide)] at e2
      have r2 : ∀ a, a ≠ 225 → w2.1 a = w.1 a := fun a ha => by rw [e2, wV_ne ha]
      refine ih (k + 1) w2 (by omega) (fun a ha => by rw [r2 a (by simp at ha; omega)]; exact a1 a ha) (fun i hi => by rw [r2 212 (by decide)]; exact a2 i hi) (fun x hx => by rw [r2 210 (by decide)]; exact a3 x hx) (fun i hi => by rw [r2 214 (by decide)]; exact a4 i hi) (fun e he => ?_)
      rw [e2]
      by_cases hek : e = k
      · rw [hek, wV_at]
      · rw [wV_other _ _ _ _ _ hek]; exact a5 e (by omega)
  have l58 : ∀ (c k : Nat) (w : xS), k + c = 3 → (∀ a, a ∉ [212] → w.1 a = v7.1 a) → (∀ i, i < k → w.1 212 i = v.1 227 (920 * j + 2 + i)) → aX6_on G (d + 2) 58 [some (.ref 200), some (.int (nI j)), some (.int (nI (920 * j))), some (.int (nI k))] [] z w Q := by
    intro c
    induction c with
    | zero =>
      intro k w hk a1 a2
      have : k = 3 := by omega
      subst this
      refine vc_X6_on_58 B (bt (by decide) ?_)
      rw [show nI (920 * j) + 5 = nI (920 * j + 5) by rw [show (5 : Int32) = nI 5 from rfl, nI_add]]
      refine om_read B (bI_227 B) ⟨by decide, by decide⟩ (by decide) (by omega) (fun w2 hS g1 g2 => ?_)
      refine l98 60 0 w2 rfl (fun a ha => ?_) (fun i hi => by rw [hS.2 212 (by decide)]; exact a2 i hi) (fun x hx => by rw [g1 x hx, a1 227 (by decide), a7 227 (by decide)]) (fun i hi => by rw [g2 i hi, a1 227 (by decide), a7 227 (by decide)]) (fun e he => absurd he (Nat.not_lt_zero _))
      simp at ha
      rw [hS.2 a (by simp; omega), a1 a (by simp; omega)]
    | succ c ih =>
      intro k w hk a1 a2
      refine vc_X6_on_58 B (bf (by rw [i32le, i32_3, nIi (by omega)]; omega) ?_)
      rw [show (2 : Int32) = nI 2 from rfl, ee, nI_1]
      refine ⟨vpN (by omega) (by omega), vpN (by omega) (by omega), fun w2 e2 => ?_⟩
      rw [clN (by omega), clN (by omega), a1 227 (by decide), a7 227 (by decide)] at e2
      refine ih (k + 1) w2 (by omega) (fun a ha => by rw [e2, wV_ne (by simpa using ha)]; exact a1 a ha) (fun i hi => ?_)
      rw [e2]
      by_cases hik : i = k
      · rw [hik, wV_at]
      · rw [wV_other _ _ _ _ _ hik]; exact a2 i (by omega)
  exact l58 3 0 v7 rfl (fun a _ => rfl) (fun i hi => absurd hi (Nat.not_lt_zero _))
theorem pr_on (B : Base z) (h : InvR z v R) {x : Int32} : oX5_on G (d + 16) [.ref 0, .int x] z v (fun r v1 => oX6_on G (d + 16) [.ref 200, .int x] z v1 (fun r' v2 => Pr z r r' v2)) := by
  have I := h.1
  have mbad : ¬ inR x 3 → oX6_on G (d + 16) [.ref 200, .int x] z v (fun r' v2 => Pr z (-1) r' v2) := fun hx =>
    vc_X6_on B (om_in B (fun a b => absurd ⟨by rw [i32_0] at a; omega, by rw [i32_2] at b; omega⟩ hx) (fun _ => nb0 (Pr.mk rfl h)))
  refine vc_X5_on B ⟨fun q => mbad (by rw [i32lt, i32_0] at q; intro w; have := w.1; omega), fun q => ⟨fun q2 => ?_, fun q2 => mbad (by rw [i32lt, i32_3] at q2; intro w; have := w.2; omega)⟩⟩
  rw [i32lt, i32_0] at q
  rw [i32lt, i32_3] at q2
  obtain ⟨j, ej, ej2, _⟩ := i32nat (x := x) (by omega)
  subst ej
  have hj : j < 3 := by omega
  have vj := vpN (j := j) (n := 3) hj (by omega)
  have v920 := vpN (j := 920 * j) (n := 2760) (by omega) (by omega)
  -- the reference finds nothing
  have mno : v.1 227 (920 * j) = -9 → oX5_find G (d + 15) [.ref 0, .int 1] z v (fun r0 v1 => oX6_on G (d + 16) [.ref 200, .int (nI j)] z v1 (fun r' v2 => Pr z r0 r' v2)) := by
    intro h9
    refine ok_find (f := 1) B (by decide) (by decide) (vc_X6_on B (om_in B (fun _ _ => nb1 ?_) (fun a => absurd ⟨by rw [i32_0]; omega, by rw [i32_2]; omega⟩ a)))
    rw [e920, clN (by omega), fnd_ne (by decide) (by decide)]
    exact ⟨v920, nf h9 (om_meet (f := 1) B (by decide) (Pr.mk rfl (h.find (by decide) (by decide)).done))⟩
  rw [clN (by omega)]
  rcases I.2.2.2.2.1 j hj with ⟨k1, k2⟩ | ⟨k1, k2, R', hO', hL', hC', hK'⟩
  · rw [k1]
    exact ⟨vj, fun _ => ⟨vj, bt rfl (mno k2)⟩, fun b _ => ⟨vj, bt rfl (mno k2)⟩⟩
  · have hz := I.1 j hj
    refine ⟨vj, fun w => ?_, fun b hb => ⟨vj, ?_⟩⟩
    · rw [k2] at w; exact absurd w (by simp)
    have eb : b = 40 + 10 * j := by rw [k2] at hb; injection hb with hb; exact hb.symm
    subst eb
    have hland : xLandAt z (40 + 10 * j) := by
      rcases hz with w | w
      · rw [k2] at w; exact absurd w (by simp)
      · exact w.2
    rw [k1]
    refine bf (by decide) (ok_becomeLike B (bL_30 B) hland (by omega) hO' hC' (fun v1 hr h2 hC1 => ?_))
    rw [hC1.1.2.2.2]
    have M1 := I.2.2.2.1.row I.D (v1 := v1) (fun a ha => hr a (by omega))
    have K1 : KR v1 j R' := hK'.fr (hr 227 (by omega))
    refine vc_X6_on B (om_in B (fun _ _ => nb1 ?_) (fun a => absurd ⟨by rw [i32_0]; omega, by rw [i32_2]; omega⟩ a))
    rw [e920, show nI (920 * j) + 1 = nI (920 * j + 1) from nI_1 _, clN (by omega), clN (by omega)]
    have he60 := hO'.2.2.1
    refine ⟨v920, nt (by rw [K1.1.1]; exact nI_ne9 (by omega)) ⟨v920, fun v5 e5 => ⟨vpN (by omega) (by omega), fun v7 e7 => ?_⟩⟩⟩
    refine om_onGo B hj hO' M1 hL' K1 (fun v2 g1 g2 hM2 => Pr.mk rfl (h.land (R' := R') (fun a ha => ?_) ?_ ?_ hO' hL'.sym (hC1.same30 (fun a q1 q2 => g1 a (by simp; omega))) hM2)) v5 e5 v7 e7
    · simp [landL] at ha
      rw [g1 a (by simp; omega), hr a (by omega)]
    · rw [g2 0 (by decide) (by decide), hr 200 (by omega)]
    · rw [g2 2 (by decide) (by decide), hr 200 (by omega)]
end PON
