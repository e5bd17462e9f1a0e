/-! pairs: spot, band, mark, frost, move -/
theorem bit01 : ∀ F, F < 1024 → ∀ j, j < 10 → ((nI F >>> (nI j &&& 31)) &&& 1) = if F.testBit j = true then 1 else 0 := by decide +kernel
/-- the land with another frost, other places -/
theorem I0R.setD {z : xZ} {v v1 : xS} {R : xR} {F' : Nat} {P' : Nat → Nat} (h : I0R z v R) (hD : DB (dn (rD R), db (rD R), F', (rD R).2.2.2.1, P', (rD R).2.2.2.2.2))
    (hr : ∀ a, a ∉ [30, 32, 200, 212] → v1.1 a = v.1 a) (c0 : v1.1 30 0 = v.1 30 0) (c1 : v1.1 30 1 = v.1 30 1) (c3 : v1.1 30 3 = v.1 30 3) (c2 : v1.1 30 2 = nI F') (m0 : v1.1 200 8 = v.1 200 8) (m1 : v1.1 200 9 = v.1 200 9) (m3 : v1.1 200 24 = v.1 200 24) (m2 : v1.1 200 15 = nI F')
    (p1 : ∀ i, i < db (rD R) → v1.1 32 i = nI (P' i)) (p2 : ∀ i, i < db (rD R) → v1.1 212 i = nI (P' i)) : I0R z v1 ((dn (rD R), db (rD R), F', (rD R).2.2.2.1, P', (rD R).2.2.2.2.2), R.2) := by
  obtain ⟨h1, h2, ⟨⟨a0, a1, a2, a3⟩, ab, ac, ad⟩, ⟨⟨b0, b1, b2, b3⟩, bb, bc, bd⟩, h5, h6, h7⟩ := h
  refine ⟨h1, ⟨hD, h2.2.1, h2.2.2.1, h2.2.2.2⟩, ⟨⟨c0.trans a0, c1.trans a1, c2, c3.trans a3⟩, fun i hi => ?_, fun x hx => ?_, fun k hk => ?_⟩, ⟨⟨m0.trans b0, m1.trans b1, m2, m3.trans b3⟩, fun i hi => ?_, fun x hx => ?_, fun k hk => ?_⟩, Kept.like (h5.fr (hr 101 (by decide)) (hr 227 (by decide)) (fun a q1 q2 => hr a (by simp; omega))) ⟨rfl, rfl, fun i _ => ⟨rfl, rfl⟩⟩, h6.fr (hr 1 (by decide)) (fun j hj => hr _ (by simp; omega)) (hr 203 (by decide)) (hr 204 (by decide)), h7.fr (hr 10 (by decide)) (fun j hj => hr _ (by simp; omega)) (hr 206 (by decide)) (hr 207 (by decide))⟩
  · rw [hr 34 (by decide), hr 33 (by decide), hr 35 (by decide)]
    exact ⟨(ab i hi).1, p1 i hi, (ab i hi).2.2.1, (ab i hi).2.2.2⟩
  · rw [hr (30 + 1) (by decide)]; exact ac x hx
  · rw [hr (30 + 6) (by decide), hr (30 + 7) (by decide), hr (30 + 8) (by decide)]; exact ad k hk
  · rw [hr 211 (by decide), hr 213 (by decide), hr 214 (by decide)]
    exact ⟨(bb i hi).1, p2 i hi, (bb i hi).2.2.1, (bb i hi).2.2.2⟩
  · rw [hr 210 (by decide)]; exact bc x hx
  · rw [hr 225 (by decide), hr 226 (by decide)]; exact bd k hk
theorem InvR.setD {z : xZ} {v v1 : xS} {R : xR} {F' : Nat} {P' : Nat → Nat} (h : InvR z v R) (hD : DB (dn (rD R), db (rD R), F', (rD R).2.2.2.1, P', (rD R).2.2.2.2.2))
    (hr : ∀ a, a ∉ [30, 32, 200, 212] → v1.1 a = v.1 a) (c0 : ∀ f, f ≠ 2 → v1.1 30 f = v.1 30 f) (c2 : v1.1 30 2 = nI F') (m0 : ∀ f, f ≠ 15 → v1.1 200 f = v.1 200 f) (m2 : v1.1 200 15 = nI F')
    (p1 : ∀ i, i < db (rD R) → v1.1 32 i = nI (P' i)) (p2 : ∀ i, i < db (rD R) → v1.1 212 i = nI (P' i)) : InvR z v1 ((dn (rD R), db (rD R), F', (rD R).2.2.2.1, P', (rD R).2.2.2.2.2), R.2) := by
  obtain ⟨h1, ⟨h2, h3⟩, h4⟩ := h
  refine ⟨h1.setD hD hr (c0 0 (by decide)) (c0 1 (by decide)) (c0 3 (by decide)) c2 (m0 8 (by decide)) (m0 9 (by decide)) (m0 24 (by decide)) m2 p1 p2, ⟨?_, fun f q1 q2 => ?_⟩, ?_⟩
  · rw [hr 0 (by decide), m0 0 (by decide)]; exact h2
  · rw [hr 102 (by decide), hr 201 (by decide)]; exact h3 f q1 q2
  · rw [hr 0 (by decide), m0 2 (by decide)]; exact h4
section PSPOT
variable {G : xG} {d : Nat} {z : xZ} {v : xS} {R : xR}
theorem pr_spot (B : Base z) (h : InvR z v R) {x : Int32} : oX5_spot G (d + 16) [.ref 0, .int x] z v (fun r v1 => oX6_spot G (d + 16) [.ref 200, .int x] z v1 (fun r' v2 => Pr z r r' v2)) := by
  have I := h.1
  have hn := I.D.1
  refine vc_X5_spot B (ok_isSpot B I.LC I.D (fun c => nb1 ?_) (fun c => nb0 (vc_X6_spot B (om_isSpot B I.LM I.D (fun q => absurd q c) (fun _ => br0 (Pr.mk rfl h))))))
  obtain ⟨j, hj, e, _⟩ := inR_of c
  subst e
  have vj := vpN (j := j) (n := 10) (by omega) (by omega)
  have model : ∀ b : Int32, b = (if (dF (rD R)).testBit j = true then 1 else 0) → oX6_spot G (d + 16) [.ref 200, .int (nI j)] z (wV v 0 10 (nI (rg R j))) (fun r' v2 => Pr z b r' v2) := by
    intro b hb
    have J1 := Jv.tell (y := nI (rg R j)) h
    refine vc_X6_spot B (om_isSpot B J1.1.LM I.D (fun _ => br1 ⟨vj, ?_⟩) (fun q => absurd c q))
    rw [J1.1.LM.2.2.1, clN (by omega), J1.1.G j hj, bit01 _ I.D.F j (by omega), ← hb]
    exact om_ask B (Pr.mk rfl J1.done)
  refine ok_isFrozen B I.LC I.D hj (fun q => br1 ⟨vj, ?_⟩) (fun q => br0 ⟨vj, ?_⟩)
  · rw [clN (by omega), I.g j hj]
    exact ok_tell B (model 1 (by rw [if_pos q]))
  · rw [clN (by omega), I.g j hj]
    exact ok_tell B (model 0 (by rw [if_neg (by rw [q]; decide)]))
theorem pr_band (B : Base z) (h : InvR z v R) {x y : Int32} : oX5_band G (d + 16) [.ref 0, .int x, .int y] z v (fun r v1 => oX6_band G (d + 16) [.ref 200, .int x, .int y] z v1 (fun r' v2 => Pr z r r' v2)) := by
  have I := h.1
  have i4 : (4 : Int32).toInt = 4 := by decide
  have i5 : (5 : Int32).toInt = 5 := by decide
  refine vc_X5_band B (ok_isBand B I.LC I.D (fun c => br1 ⟨fun q => ?_, fun q => ⟨fun q2 => ?_, fun q2 => ?_⟩⟩) (fun c => br0 (vc_X6_band B (om_isBand B I.LM I.D (fun q => absurd q c) (fun _ => br0 (Pr.mk rfl h))))))
  · rw [i32lt, i32_0] at q
    exact vc_X6_band B (om_isBand B I.LM I.D (fun _ => br1 (om_in B (fun a b => by rw [i32_0] at a; omega) (fun _ => br0 (Pr.mk rfl h)))) (fun w => absurd c w))
  · rw [i32lt, i32_0] at q
    rw [i32lt, i5] at q2
    obtain ⟨i, hi, e, _⟩ := inR_of c
    obtain ⟨w, ew, ew2, _⟩ := i32nat (x := y) (by omega)
    subst e ew
    have J0 := I.2.2.1.2.1 i hi
    refine ok_bandTells B I.LC I.D hi (by omega) (ok_tell B ?_)
    have J1 : Jv z (wV v 0 10 _) R _ := Jv.tell (y := (if w = 0 then nI (dK (rD R) i) else if w = 1 then nI (dP (rD R) i) else if w = 2 then nI (dU (rD R) i) else if w = 3 then sHs (rD R) i (dn (rD R)) else v.1 35 i)) h
    refine vc_X6_band B (om_isBand B J1.1.LM I.D (fun _ => br1 (om_in B (fun _ _ => br1 (om_bandOf B J1.1.LM I.D hi (by omega) ?_)) (fun a => absurd ⟨by rw [i32_0]; omega, by rw [i4]; omega⟩ a))) (fun w => absurd c w))
    have e1 : v.1 214 i = v.1 35 i := by
      rw [(I.2.2.2.1.2.1 i hi).2.2.2]
      exact J0.2.2.2.symm
    rw [wV_ne (b := 214) (by decide), e1]
    exact om_ask B (Pr.mk rfl J1.done)
  · rw [i32lt, i5] at q2
    exact vc_X6_band B (om_isBand B I.LM I.D (fun _ => br1 (om_in B (fun a b => by rw [i4] at b; omega) (fun _ => br0 (Pr.mk rfl h)))) (fun w => absurd c w))
theorem pr_frost (B : Base z) (h : InvR z v R) {x : Int32} : oX5_frost G (d + 16) [.ref 0, .int x] z v (fun r v1 => oX6_frost G (d + 16) [.ref 200, .int x] z v1 (fun r' v2 => Pr z r r' v2)) := by
  have I := h.1
  have hn := I.D.1
  refine vc_X5_frost B (ok_isSpotSet B I.LC I.D (fun c => nb1 (fun v3 e3 => ?_)) (fun c => nb0 (vc_X6_frost B (om_isSet B I.LM I.D (fun q => absurd q c) (fun _ => nb0 (Pr.mk rfl h))))))
  have k3 : ∀ a, a ≠ 30 → v3.1 a = v.1 a := fun a ha => by rw [e3, wV_ne ha]
  have L3 : LM v3 (rD R) := I.LM.keep (S := [30]) (by rw [e3]; exact (Same.rf _ _).wV (by simp)) (by decide) (by decide) (by decide) (by decide)
  refine vc_X6_frost B (om_isSet B L3 I.D (fun _ => nb1 (fun v4 e4 => ?_)) (fun q => absurd c q))
  obtain ⟨F, hF, e, _⟩ := inR_of c
  refine Pr.mk (by rw [k3 200 (by decide), I.LM.2.2.1, I.LC.2.2.1]) (h.setD (F' := F) (P' := (rD R).2.2.2.2.1) ⟨I.D.1, I.D.2.1, hF, I.D.2.2.2⟩ (fun a ha => ?_) (fun f hf => ?_) ?_ (fun f hf => ?_) ?_ (fun i hi => ?_) (fun i hi => ?_))
  · simp at ha
    rw [e4, wV_ne (by omega), k3 a (by omega)]
  · rw [e4, wV_ne (by decide), e3, wV_other _ _ _ _ _ hf]
  · rw [e4, wV_ne (by decide), e3, wV_at, e]
  · rw [e4, wV_other _ _ _ _ _ hf, k3 200 (by decide)]
  · rw [e4, wV_at, e]
  · rw [e4, wV_ne (by decide), k3 32 (by decide)]; exact (I.LC.2.2.2 i hi).2.1
  · rw [e4, wV_ne (by decide), k3 212 (by decide)]; exact (I.LM.2.2.2 i hi).2.1
theorem pr_move (B : Base z) (h : InvR z v R) {x y : Int32} : oX5_move G (d + 16) [.ref 0, .int x, .int y] z v (fun r v1 => oX6_move G (d + 16) [.ref 200, .int x, .int y] z v1 (fun r' v2 => Pr z r r' v2)) := by
  have I := h.1
  have hb := I.D.2.1
  have hn := I.D.1
  by_cases cx : inR x (db (rD R))
  case neg => exact vc_X5_move B (ok_isBand B I.LC I.D (fun q => absurd q cx) (fun _ => br0 (vc_X6_move B (om_isBand B I.LM I.D (fun q => absurd q cx) (fun _ => br0 (Pr.mk rfl h))))))
  by_cases cy : inR y (dn (rD R))
  case neg => exact vc_X5_move B (ok_isBand B I.LC I.D (fun _ => br1 (ok_isSpot B I.LC I.D (fun q => absurd q cy) (fun _ => nb0 (vc_X6_move B (om_isBand B I.LM I.D (fun _ => br1 (om_isSpot B I.LM I.D (fun q => absurd q cy) (fun _ => nb0 (Pr.mk rfl h)))) (fun q => absurd cx q)))))) (fun q => absurd cx q))
  obtain ⟨i, hi, ei, _⟩ := inR_of cx
  obtain ⟨p, hp, ep, _⟩ := inR_of cy
  have vi := vpN (j := i) (n := 3) (by omega) (by omega)
  refine vc_X5_move B (ok_isBand B I.LC I.D (fun _ => br1 (ok_isSpot B I.LC I.D (fun _ => nb1 ?_) (fun q => absurd cy q))) (fun q => absurd cx q))
  rw [ei, clN (by omega)]
  refine ⟨vi, vi, fun v7 e7 => ?_⟩
  have k7 : ∀ a, a ≠ 32 → v7.1 a = v.1 a := fun a ha => by rw [e7, wV_ne ha]
  have L7 : LM v7 (rD R) := I.LM.keep (S := [32]) (by rw [e7]; exact (Same.rf _ _).wV (by simp)) (by decide) (by decide) (by decide) (by decide)
  refine vc_X6_move B (om_isBand B L7 I.D (fun _ => br1 (om_isSpot B L7 I.D (fun _ => nb1 ?_) (fun q => absurd cy q))) (fun q => absurd (inR_nI hi (by omega)) q))
  rw [clN (by omega)]
  refine ⟨vi, vi, fun v8 e8 => ?_⟩
  have D' : DB (dn (rD R), db (rD R), dF (rD R), (rD R).2.2.2.1, upN (rD R).2.2.2.2.1 i p, (rD R).2.2.2.2.2) := by
    refine ⟨I.D.1, I.D.2.1, I.D.2.2.1, fun k hk => ?_⟩
    have := I.D.2.2.2 k hk
    refine ⟨this.1, ?_, this.2.2⟩
    show upN _ _ _ k < dn (rD R)
    unfold upN
    split
    · exact hp
    · exact this.2.1
  refine Pr.mk (by rw [k7 212 (by decide), (I.LM.2.2.2 i hi).2.1, (I.LC.2.2.2 i hi).2.1]) (h.setD (F' := dF (rD R)) (P' := upN (rD R).2.2.2.2.1 i p) D' (fun a ha => ?_) (fun f hf => ?_) ?_ (fun f hf => ?_) ?_ (fun k hk => ?_) (fun k hk => ?_))
  · simp at ha
    rw [e8, wV_ne (by omega), k7 a (by omega)]
  · rw [e8, wV_ne (by decide), k7 30 (by decide)]
  · rw [e8, wV_ne (by decide), k7 30 (by decide)]; exact I.LC.2.2.1
  · rw [e8, wV_ne (by decide), k7 200 (by decide)]
  · rw [e8, wV_ne (by decide), k7 200 (by decide)]; exact I.LM.2.2.1
  · rw [e8, wV_ne (by decide), e7]
    unfold upN
    by_cases hki : k = i
    · rw [hki, wV_at, if_pos rfl, ep]
    · rw [wV_other _ _ _ _ _ hki, if_neg hki]; exact (I.LC.2.2.2 k hk).2.1
  · rw [e8]
    unfold upN
    by_cases hki : k = i
    · rw [hki, wV_at, if_pos rfl, ep]
    · rw [wV_other _ _ _ _ _ hki, if_neg hki, k7 212 (by decide)]; exact (I.LM.2.2.2 k hk).2.1
theorem i32_5 : (5 : Int32).toInt = 5 := by decide
theorem i32_6 : (6 : Int32).toInt = 6 := by decide
theorem pr_mark (B : Base z) (h : InvR z v R) {x y : Int32} : oX5_mark G (d + 16) [.ref 0, .int x, .int y] z v (fun r v1 => oX6_mark G (d + 16) [.ref 200, .int x, .int y] z v1 (fun r' v2 => Pr z r r' v2)) := by
  have I := h.1
  have hb := I.D.2.1
  have hn := I.D.1
  by_cases cx : inR x (db (rD R))
  case neg => exact vc_X5_mark B (ok_isBand B I.LC I.D (fun q => absurd q cx) (fun _ => br0 (vc_X6_mark B (om_isBand B I.LM I.D (fun q => absurd q cx) (fun _ => br0 (Pr.mk rfl h))))))
  have mbad : ¬ (1 ≤ y.toInt ∧ y.toInt ≤ 5) → oX6_mark G (d + 16) [.ref 200, .int x, .int y] z v (fun r' v2 => Pr z (-1) r' v2) := fun hy =>
    vc_X6_mark B (om_isBand B I.LM I.D (fun _ => br1 (om_in B (fun a b => absurd ⟨by rw [i32_1] at a; omega, by rw [i32_5] at b; omega⟩ hy) (fun _ => nb0 (Pr.mk rfl h)))) (fun q => absurd cx q))
  refine vc_X5_mark B (ok_isBand B I.LC I.D (fun _ => br1 ⟨fun q => mbad (by rw [i32le, i32_0] at q; omega), fun q => ⟨fun q2 => ?_, fun q2 => mbad (by rw [i32lt, i32_6] at q2; omega)⟩⟩) (fun q => absurd cx q))
  rw [i32le, i32_0] at q
  rw [i32lt, i32_6] at q2
  obtain ⟨i, hi, ei, _⟩ := inR_of cx
  obtain ⟨k, ek, ek2, _⟩ := i32nat (x := y) (by omega)
  subst ei ek
  rw [nIi (by omega)] at q q2
  have vi := vpN (j := i) (n := 3) (by omega) (by omega)
  -- the reference, of a kind that it is
  have model : ∀ (v1 : xS) (r : Int32), QS v v1 → sIs (dK (rD R) i) k = true → (k = 1 → r = nI (sTune (rD R) i 1 (rg R)).2) → (k = 2 → r = nI (sLow (rD R) i (rg R) (dn (rD R)))) → (k = 3 → r = nI (dn (rD R)) - 1 - nI (dP (rD R) i)) → (k = 4 → r = nI (dU (rD R) i)) → (k = 5 → r = nI (sTune (rD R) i 2 (rg R)).2) → oX6_mark G (d + 16) [.ref 200, .int (nI i), .int (nI k)] z v1 (fun r' v2 => Pr z r r' v2) := by
    intro v1 r hq hk h1 h2 h3 h4 h5
    have J := h.q hq
    have L := J.1.LM
    refine vc_X6_mark B (om_isBand B L I.D (fun _ => br1 (om_in B (fun _ _ => nb1 (om_isA B L I.D hi (by omega) (fun _ => nb1 ?_) (fun w => by rw [hk] at w; exact absurd w (by decide)))) (fun a => absurd ⟨by rw [i32_1, nIi (by omega)]; omega, by rw [i32_5, nIi (by omega)]; omega⟩ a))) (fun q => absurd cx q))
    have e8 : (v1.1 200 8).toInt = dn (rD R) := by rw [L.1]; exact nIi (by omega)
    have loop : ∀ (c x : Nat), x + c = dn (rD R) → aX6_mark G (d + 16) 39 [some (.ref 200), some (.int (nI i)), some (.int (nI k)), some (.int (nI (sLow (rD R) i (rg R) x))), some (.int (nI x))] [] z v1 (fun r' v2 => Pr z r r' v2) := by
      intro c
      induction c with
      | zero =>
        intro x hx
        have : x = dn (rD R) := by omega
        subst this
        refine vc_X6_mark_39 B (bt (by rw [i32le, e8, nIi (by omega)]; omega) ⟨fun w1 => ⟨fun w2 => ⟨fun w3 => ⟨fun w4 => ?_, fun w4 => ⟨vi, ?_⟩⟩, fun w3 => ⟨vi, ?_⟩⟩, fun w2 => ?_⟩, fun w1 => ?_⟩)
        · have k5 : k = 5 := by
            have a1 : k ≠ 1 := fun q => w1 (by rw [q]; rfl)
            have a2 : k ≠ 2 := fun q => w2 (by rw [q]; rfl)
            have a3 : k ≠ 3 := fun q => w3 (by rw [q]; rfl)
            have a4 : k ≠ 4 := fun q => w4 (by rw [q]; rfl)
            omega
          refine om_wouldMove B (t := 2) L I.D J.1.G I.s hi (by decide) (fun v2 hS hBk => Pr.mk (h5 k5).symm (J.q (QS.ofB hS hBk)))
        · rw [clN (by omega), (L.2.2.2 i hi).2.2]
          exact Pr.mk (h4 (nIinj (b := 4) (by omega) (by omega) w4)).symm J
        · rw [clN (by omega), (L.2.2.2 i hi).2.1, L.1]
          exact Pr.mk (h3 (nIinj (b := 3) (by omega) (by omega) w3)).symm J
        · exact Pr.mk (h2 (nIinj (b := 2) (by omega) (by omega) w2)).symm J
        · refine om_wouldMove B (t := 1) L I.D J.1.G I.s hi (by decide) (fun v2 hS hBk => Pr.mk (h1 (nIinj (b := 1) (by omega) (by omega) w1)).symm (J.q (QS.ofB hS hBk)))
      | succ c ih =>
        intro x hx
        have := ih (x + 1) (by omega)
        rw [sLow, ← nI_1 x] at this
        have hgx := sm_le (g := rg R) (n := dn (rD R)) (x := x) (by omega)
        have hs := I.s
        have p0 : ∀ a : Int32, a + 0 = a := fun a => Int32.add_zero a
        refine vc_X6_mark_39 B (bf (by rw [i32le, e8, nIi (by omega)]; omega) (om_isHeard B L I.D hi (by omega) (fun w => br1 ⟨vpN (by omega) (by omega), ?_⟩) (fun w => br0 ?_)))
        · rw [clN (by omega), J.1.G x (by omega), p0]
          refine ⟨fun w2 => ?_, fun w2 => ?_⟩
          · rw [i32le, i32_2, nIi (by omega)] at w2
            rw [if_neg (fun w3 => by omega), Nat.add_zero] at this
            exact this
          · rw [i32le, i32_2, nIi (by omega)] at w2
            rw [if_pos ⟨w, by omega⟩, ← nI_1] at this
            exact this
        · rw [if_neg (fun w3 => by rw [w] at w3; exact absurd w3.1 (by decide)), Nat.add_zero] at this
          rw [p0]
          exact this
    exact loop (dn (rD R)) 0 (by omega)
  refine ok_isOf B I.LC I.D hi (by omega) (by omega) (fun hk => nb1 ⟨fun w => ?_, fun w => ?_, fun w => ?_, fun w => ⟨vi, ?_⟩, fun w => ?_⟩) (fun hk => nb0 (ok_find (f := 3) B (by decide) (by decide) ?_))
  · have k5 : k = 5 := by rw [nIi (by omega)] at w; omega
    exact ok_inchesByTune B (t := 2) I.LC I.D I.g I.s hi (by decide) (fun v1 hS => model v1 _ (QS.of hS) hk (fun q => by omega) (fun q => by omega) (fun q => by omega) (fun q => by omega) (fun _ => rfl))
  · have k1 : k = 1 := nIinj (b := 1) (by omega) (by omega) w
    exact ok_inchesByTune B (t := 1) I.LC I.D I.g I.s hi (by decide) (fun v1 hS => model v1 _ (QS.of hS) hk (fun _ => rfl) (fun q => by omega) (fun q => by omega) (fun q => by omega) (fun q => by omega))
  · have k2 : k = 2 := nIinj (b := 2) (by omega) (by omega) w
    exact ok_lowHeard B I.LC I.D hi I.g I.s (model v _ (QS.rf v) hk (fun q => by omega) (fun _ => rfl) (fun q => by omega) (fun q => by omega) (fun q => by omega))
  · have k3 : k = 3 := nIinj (b := 3) (by omega) (by omega) w
    rw [clN (by omega), (I.LC.2.2.2 i hi).2.1, I.LC.1]
    exact model v _ (QS.rf v) hk (fun q => by omega) (fun q => by omega) (fun _ => rfl) (fun q => by omega) (fun q => by omega)
  · have k4 : k = 4 := nIinj (b := 4) (by omega) (by omega) w
    refine ok_reach B I.LC I.D hi ⟨vi, ?_⟩
    rw [clN (by omega), (I.LC.2.2.2 i hi).2.2]
    have hK : dK (rD R) i = 4 := by
      have := of_decide_eq_true hk
      omega
    have hU := (I.D.2.2.2 i hi).2.2
    refine model v _ (QS.rf v) hk (fun q => by omega) (fun q => by omega) (fun q => by omega) (fun _ => ?_) (fun q => by omega)
    unfold sReach
    rw [if_pos hK, i32eq, i32sub (by rw [nIi (by omega), nIi (by omega)]; omega) (by rw [nIi (by omega), nIi (by omega)]; omega), nIi (by omega), nIi (by omega)]
    omega
  · have J3 := h.find (f := 3) (by decide) (by decide)
    have L3 := J3.1.LM
    exact vc_X6_mark B (om_isBand B L3 I.D (fun _ => br1 (om_in B (fun _ _ => nb1 (om_isA B L3 I.D hi (by omega) (fun w => by rw [hk] at w; exact absurd w (by decide)) (fun _ => nb0 (om_meet (f := 3) B (by decide) (Pr.mk rfl J3.done))))) (fun a => absurd ⟨by rw [i32_1, nIi (by omega)]; omega, by rw [i32_5, nIi (by omega)]; omega⟩ a))) (fun q => absurd cx q))
end PSPOT
