/-! pairs: evening, undo, heights, on -/
def landL : List Nat := [30, 31, 32, 33, 34, 35, 36, 37, 38, 200, 210, 211, 212, 213, 214, 225, 226]
theorem I0R.land {z : xZ} {v v1 : xS} {R R' : xR} (h : I0R z v R) (hr : ∀ a, a ∉ landL → v1.1 a = v.1 a) (hO : OKR R') (hL : LK (rD R') (rD R)) (hC : CR v1 30 R') (hM : MR v1 R') : I0R z v1 R' := by
  obtain ⟨h1, h2, h3, h4, h5, h6, h7⟩ := h
  refine ⟨h1, hO, hC, hM, Kept.like (h5.fr (hr 101 (by decide)) (hr 227 (by decide)) (fun a q1 q2 => hr a (by simp [landL]; omega))) hL, h6.fr (hr 1 (by decide)) (fun j hj => hr _ (by simp [landL]; omega)) (hr 203 (by decide)) (hr 204 (by decide)), h7.fr (hr 10 (by decide)) (fun j hj => hr _ (by simp [landL]; omega)) (hr 206 (by decide)) (hr 207 (by decide))⟩
theorem Jv.land {z : xZ} {v v1 : xS} {R R' : xR} {x : Int32} (h : Jv z v R x) (hr : ∀ a, a ∉ landL → v1.1 a = v.1 a) (h0 : v1.1 200 0 = v.1 200 0) (hO : OKR R') (hL : LK (rD R') (rD R)) (hC : CR v1 30 R') (hM : MR v1 R') : Jv z v1 R' x := by
  obtain ⟨h1, ⟨h2, h3⟩, h4⟩ := h
  refine ⟨h1.land hr hO hL hC hM, ⟨?_, fun f q1 q2 => ?_⟩, ?_⟩
  · rw [hr 0 (by decide), h0]; exact h2
  · rw [hr 102 (by decide), hr 201 (by decide)]; exact h3 f q1 q2
  · rw [hr 0 (by decide)]; exact h4
theorem InvR.land {z : xZ} {v v1 : xS} {R R' : xR} (h : InvR z v R) (hr : ∀ a, a ∉ landL → v1.1 a = v.1 a) (h0 : v1.1 200 0 = v.1 200 0) (h2 : v1.1 200 2 = v.1 200 2) (hO : OKR R') (hL : LK (rD R') (rD R)) (hC : CR v1 30 R') (hM : MR v1 R') : InvR z v1 R' := by
  unfold InvR
  rw [h2]
  exact Jv.land h hr h0 hO hL hC hM
theorem LK.rf (D : xD) : LK D D := ⟨rfl, rfl, fun _ _ => ⟨rfl, rfl⟩⟩
theorem LK.sym {D D' : xD} (h : LK D D') : LK D' D := ⟨h.1.symm, h.2.1.symm, fun i hi => ⟨(h.2.2 i (by rw [← h.2.1]; exact hi)).1.symm, (h.2.2 i (by rw [← h.2.1]; exact hi)).2.symm⟩⟩
/-- the land behind an evening -/
def eveR (p : Nat) (R : xR) : xR := (rD R, eG (rD R) p (rg R), re R + 1, fun i => rm R i + nI (sMv (rD R) p (rg R) i), upd (rp R) (re R) (nI p), fun k => if k = re R then rg R else rh R k, fun k => if k = re R then rm R else rn R k)
theorem OKR.eve {R : xR} {p : Nat} (h : OKR R) (he : re R < 60) : OKR (eveR p R) := by
  obtain ⟨a, b, c, d⟩ := h
  refine ⟨a, ?_, by show re R + 1 ≤ 60; omega, fun k hk => ?_⟩
  · show sm (eG (rD R) p (rg R)) (dn (rD R)) ≤ 90
    rw [sEvG_sm]; exact b
  · show sm (if k = re R then rg R else rh R k) (dn (rD R)) ≤ 90
    have hk' : k < re R + 1 := hk
    split
    · exact b
    · exact d k (by omega)
/-- what an evening does to the class's cells, to the reference's -/
def PC (v v1 : xS) (R : xR) (p : Nat) : Prop := Same [30, 31, 35, 36, 37, 38] v v1 ∧ (∀ f, f ≠ 3 → v1.1 30 f = v.1 30 f) ∧ v1.1 30 3 = nI (re R + 1) ∧ Gd v1 31 (rD R) (eG (rD R) p (rg R)) ∧ (∀ i, i < db (rD R) → v1.1 35 i = v.1 35 i + nI (sMv (rD R) p (rg R) i)) ∧ v1.1 36 = upd (v.1 36) (re R) (nI p) ∧ v1.1 37 = va_cpy (v.1 31) (v.1 37) 0 (10 * re R) 10 ∧ v1.1 38 = va_cpy (v.1 35) (v.1 38) 0 (3 * re R) 3
def PM (v v1 : xS) (R : xR) (p : Nat) : Prop := Same [200, 210, 214, 225, 226] v v1 ∧ (∀ f, f ≠ 24 → v1.1 200 f = v.1 200 f) ∧ v1.1 200 24 = nI (re R + 1) ∧ Gd v1 210 (rD R) (eG (rD R) p (rg R)) ∧ (∀ i, i < db (rD R) → v1.1 214 i = v.1 214 i + nI (sMv (rD R) p (rg R) i)) ∧ v1.1 225 = upd (v.1 225) (re R) (nI p) ∧ (∀ x, x < 10 → v1.1 226 (14 * re R + x) = v.1 210 x) ∧ (∀ i, i < 3 → v1.1 226 (14 * re R + 10 + i) = v.1 214 i) ∧ ∀ j, (j < 14 * re R ∨ 14 * re R + 13 ≤ j) → v1.1 226 j = v.1 226 j
theorem CR.eve {v v1 : xS} {R : xR} {p : Nat} (h : CR v 30 R) (hD : DB (rD R)) (hp : PC v v1 R p) : CR v1 30 (eveR p R) := by
  obtain ⟨⟨a0, a1, a2, a3⟩, b, c, e⟩ := h
  obtain ⟨hS, hf, h3, hG, h5, h6, h7, h8⟩ := hp
  have hn := hD.1
  have hb := hD.2.1
  refine ⟨⟨?_, ?_, ?_, h3⟩, fun i hi => ?_, hG, fun k hk => ?_⟩
  · rw [hf 0 (by decide)]; exact a0
  · rw [hf 1 (by decide)]; exact a1
  · rw [hf 2 (by decide)]; exact a2
  · rw [hS.2 (30 + 4) (by decide), hS.2 (30 + 2) (by decide), hS.2 (30 + 3) (by decide), h5 i hi]
    have := b i hi
    refine ⟨this.1, this.2.1, this.2.2.1, ?_⟩
    rw [this.2.2.2]
    rfl
  · have hk' : k < re R + 1 := hk
    by_cases ek : k = re R
    · subst ek
      refine ⟨?_, fun x hx => ?_, fun i hi => ?_⟩
      · rw [h6]
        show upd (v.1 36) (re R) (nI p) (re R) = upd (rp R) (re R) (nI p) (re R)
        simp [upd]
      · rw [h7, cpy_in (by omega) (by have : x < dn (rD R) := hx; omega)]
        show v.1 31 (0 + _) = nI ((if re R = re R then rg R else rh R (re R)) x)
        rw [if_pos rfl, show 0 + (10 * re R + x - 10 * re R) = x by omega]
        exact c x hx
      · rw [h8, cpy_in (by omega) (by have : i < db (rD R) := hi; omega)]
        show v.1 35 (0 + _) = (if re R = re R then rm R else rn R (re R)) i
        rw [if_pos rfl, show 0 + (3 * re R + i - 3 * re R) = i by omega]
        exact (b i hi).2.2.2
    · obtain ⟨q1, q2, q3⟩ := e k (by omega)
      refine ⟨?_, fun x hx => ?_, fun i hi => ?_⟩
      · rw [h6]
        show upd (v.1 36) (re R) (nI p) k = upd (rp R) (re R) (nI p) k
        unfold upd
        rw [if_neg ek, if_neg ek]
        exact q1
      · have hx' : x < dn (rD R) := hx
        rw [h7, cpy_out (by omega)]
        show _ = nI ((if k = re R then rg R else rh R k) x)
        rw [if_neg ek]
        exact q2 x hx
      · have hi' : i < db (rD R) := hi
        rw [h8, cpy_out (by omega)]
        show _ = (if k = re R then rm R else rn R k) i
        rw [if_neg ek]
        exact q3 i hi
theorem MR.eve {v v1 : xS} {R : xR} {p : Nat} (h : MR v R) (hD : DB (rD R)) (hp : PM v v1 R p) : MR v1 (eveR p R) := by
  obtain ⟨⟨a0, a1, a2, a3⟩, b, c, e⟩ := h
  obtain ⟨hS, hf, h3, hG, h5, h6, h7, h8, h9⟩ := hp
  have hn := hD.1
  have hb := hD.2.1
  refine ⟨⟨?_, ?_, ?_, h3⟩, fun i hi => ?_, hG, fun k hk => ?_⟩
  · rw [hf 8 (by decide)]; exact a0
  · rw [hf 9 (by decide)]; exact a1
  · rw [hf 15 (by decide)]; exact a2
  · rw [hS.2 211 (by decide), hS.2 212 (by decide), hS.2 213 (by decide), h5 i hi]
    have := b i hi
    refine ⟨this.1, this.2.1, this.2.2.1, ?_⟩
    rw [this.2.2.2]
    rfl
  · have hk' : k < re R + 1 := hk
    by_cases ek : k = re R
    · subst ek
      refine ⟨?_, fun x hx => ?_, fun i hi => ?_⟩
      · rw [h6]
        show upd (v.1 225) (re R) (nI p) (re R) = upd (rp R) (re R) (nI p) (re R)
        simp [upd]
      · have hx' : x < dn (rD R) := hx
        rw [h7 x (by omega)]
        show v.1 210 x = nI ((if re R = re R then rg R else rh R (re R)) x)
        rw [if_pos rfl]
        exact c x hx
      · have hi' : i < db (rD R) := hi
        rw [h8 i (by omega)]
        show v.1 214 i = (if re R = re R then rm R else rn R (re R)) i
        rw [if_pos rfl]
        exact (b i hi).2.2.2
    · obtain ⟨q1, q2, q3⟩ := e k (by omega)
      refine ⟨?_, fun x hx => ?_, fun i hi => ?_⟩
      · rw [h6]
        show upd (v.1 225) (re R) (nI p) k = upd (rp R) (re R) (nI p) k
        unfold upd
        rw [if_neg ek, if_neg ek]
        exact q1
      · have hx' : x < dn (rD R) := hx
        rw [h9 _ (by omega)]
        show _ = nI ((if k = re R then rg R else rh R k) x)
        rw [if_neg ek]
        exact q2 x hx
      · have hi' : i < db (rD R) := hi
        rw [h9 _ (by omega)]
        show _ = (if k = re R then rm R else rn R k) i
        rw [if_neg ek]
        exact q3 i hi
section PEVE
variable {G : xG} {d : Nat} {z : xZ} {v : xS} {R : xR}
theorem CR.lc (h : CR v 30 R) : LC v (rD R) := ⟨h.1.1, h.1.2.1, h.1.2.2.1, fun i hi => ⟨(h.2.1 i hi).1, (h.2.1 i hi).2.1, (h.2.1 i hi).2.2.1⟩⟩
theorem MR.lm (h : MR v R) : LM v (rD R) := ⟨h.1.1, h.1.2.1, h.1.2.2.1, fun i hi => ⟨(h.2.1 i hi).1, (h.2.1 i hi).2.1, (h.2.1 i hi).2.2.1⟩⟩
theorem ok_eve {Q : Int32 → xS → Prop} (B : Base z) (hO : OKR R) (h : CR v 30 R) (he : re R < 60) {p : Nat} (hp : p < 2147483648) (hq : ∀ v1, PC v v1 R p → CR v1 30 (eveR p R) → Q (nI (eT (rD R) p (rg R))) v1) : oX1_playTruly G (d + 4) [.ref 30, .int (nI p)] z v Q :=
  ok_playTruly B h.lc hO.1 h.2.2.1 hO.2.1 h.1.2.2.2 he hp (fun v1 a1 a2 a3 a4 a5 a6 a7 a8 => hq v1 ⟨a1, a2, a3, a4, a5, a6, a7, a8⟩ (h.eve hO.1 ⟨a1, a2, a3, a4, a5, a6, a7, a8⟩))
theorem om_eve {Q : Int32 → xS → Prop} (B : Base z) (hO : OKR R) (h : MR v R) (he : re R < 60) {p : Nat} (hp : p < 2147483648) (hq : ∀ v1, PM v v1 R p → MR v1 (eveR p R) → Q (nI (eT (rD R) p (rg R))) v1) : oX6_goEvening G (d + 7) [.ref 200, .int (nI p)] z v Q :=
  om_goEvening B h.lm hO.1 h.2.2.1 hO.2.1 h.1.2.2.2 he hp (fun v1 a1 a2 a3 a4 a5 a6 a7 a8 a9 => hq v1 ⟨a1, a2, a3, a4, a5, a6, a7, a8, a9⟩ (h.eve hO.1 ⟨a1, a2, a3, a4, a5, a6, a7, a8, a9⟩))
theorem CR.same30 {v1 : xS} (h : CR v 30 R) (hs : ∀ a, 30 ≤ a → a < 39 → v1.1 a = v.1 a) : CR v1 30 R := h.fr (fun k hk => hs _ (by omega) (by omega))
theorem MR.row {v1 : xS} (h : MR v R) (hD : DB (rD R)) (hs : ∀ a, 200 ≤ a → v1.1 a = v.1 a) : MR v1 R := by
  refine h.fr hD ?_
  rw [MF, hs 200 (by decide)]
  exact ⟨⟨rfl, rfl, rfl, rfl⟩, ⟨fun x _ => by rw [hs 210 (by decide)], fun x _ => by rw [hs 214 (by decide)]⟩, hs 211 (by decide), hs 212 (by decide), hs 213 (by decide), hs 225 (by decide), hs 226 (by decide)⟩
theorem pr_evening (B : Base z) (h : InvR z v R) {x : Int32} : oX5_evening G (d + 16) [.ref 0, .int x] z v (fun r v1 => oX6_evening G (d + 16) [.ref 200, .int x] z v1 (fun r' v2 => Pr z r r' v2)) := by
  have I := h.1
  have hn := I.D.1
  have hO := I.2.1
  have he60 := hO.2.2.1
  have hp27 := pow3 I.D.2.1
  by_cases cx : inR x (3 ^ db (rD R))
  case neg => exact vc_X5_evening B (ok_isProgram B I.LC I.D (fun q => absurd q cx) (fun _ => nb0 (vc_X6_evening B (om_isProgram B I.LM I.D (fun q => absurd q cx) (fun _ => nb0 (Pr.mk rfl h))))))
  obtain ⟨p, hp, ep, _⟩ := inR_of cx
  subst ep
  refine vc_X5_evening B (ok_isProgram B I.LC I.D (fun _ => nb1 ⟨fun q => ⟨fun q2 => ?_, fun q2 => ?_⟩, fun q => ?_⟩) (fun q => absurd cx q))
  · rw [I.e, i32lt, nIi (by omega), show (60 : Int32).toInt = 60 by decide] at q2
    have he : re R < 60 := by omega
    refine ok_eve B hO I.2.2.1 he (by omega) (fun v1 hPC hC1 => ?_)
    have q0 : ¬ nI (dn (rD R)) = 0 := by rw [I.LC.1] at q; exact q
    refine ok_breathOf B hC1.lc I.D (by omega) (ok_tell B ?_)
    show oX6_evening G (d + 16) [.ref 200, .int (nI p)] z (wV v1 0 10 (nI (eB (rD R) p))) _
    generalize hw : wV v1 0 10 (nI (eB (rD R) p)) = w
    have kw : ∀ a, a ≠ 0 → w.1 a = v1.1 a := fun a ha => by rw [← hw, wV_ne ha]
    have kw2 : ∀ a, 200 ≤ a → w.1 a = v.1 a := fun a ha => by rw [kw a (by omega), hPC.1.2 a (by simp; omega)]
    have hCw : CR w 30 (eveR p R) := hC1.same30 (fun a q1 q2 => kw a (by omega))
    have hMw : MR w R := I.2.2.2.1.row I.D kw2
    refine vc_X6_evening B (om_isProgram B hMw.lm I.D (fun _ => nb1 (nt (by rw [hMw.1.1]; exact q0) (nt (by rw [hMw.1.2.2.2]; exact fun w => by have := nIinj (b := 60) (by omega) (by omega) w; omega) ?_))) (fun q => absurd cx q))
    refine om_eve B hO hMw he (by omega) (fun v3 hPM hM3 => om_breathOf B hM3.lm I.D (by omega) (om_ask B (Pr.mk rfl (R := eveR p R) ?_)))
    have J0 := Jv.tell (y := nI (eB (rD R) p)) h
    refine (J0.land (v1 := v3) (fun a ha => ?_) ?_ (hO.eve he) (LK.rf _) (hCw.same30 (fun a q1 q2 => hPM.1.2 a (by simp; omega))) hM3).done
    · simp [landL] at ha
      rw [hPM.1.2 a (by simp; omega), ← hw]
      by_cases a0 : a = 0
      · rw [a0, wV_row, wV_row, if_pos rfl, if_pos rfl, hPC.1.2 0 (by decide)]
      · rw [wV_ne a0, wV_ne a0, hPC.1.2 a (by simp; omega)]
    · rw [hPM.2.1 0 (by decide), kw2 200 (by decide), wV_ne (by decide)]
  · rw [I.e, i32lt, nIi (by omega), show (60 : Int32).toInt = 60 by decide] at q2
    have he : re R = 60 := by omega
    rw [I.LC.1] at q
    exact vc_X6_evening B (om_isProgram B I.LM I.D (fun _ => nb1 (nt (by rw [I.LM.1]; exact q) (nf (by rw [I.E, he]; rfl) (Pr.mk rfl h)))) (fun q => absurd cx q))
  · rw [I.LC.1] at q
    exact vc_X6_evening B (om_isProgram B I.LM I.D (fun _ => nb1 (nf (by rw [I.LM.1]; exact q) (Pr.mk rfl h))) (fun q => absurd cx q))
theorem pr_undo (B : Base z) (h : InvR z v R) {x : Int32} : oX5_undo G (d + 16) [.ref 0, .int x] z v (fun r v1 => oX6_undo G (d + 16) [.ref 200, .int x] z v1 (fun r' v2 => Pr z r r' v2)) := by
  have I := h.1
  have hn := I.D.1
  have hb := I.D.2.1
  have hO := I.2.1
  have he60 := hO.2.2.1
  have ee : (v.1 30 3).toInt = re R := by rw [I.e]; exact nIi (by omega)
  have eE : (v.1 200 24).toInt = re R := by rw [I.E]; exact nIi (by omega)
  refine vc_X5_undo B ⟨fun q => ?_, fun q => ⟨fun q2 => ?_, fun q2 => ?_⟩⟩
  · rw [i32lt, i32_0] at q
    exact vc_X6_undo B (om_in B (fun a b => by rw [i32_0] at a; omega) (fun _ => nb0 (Pr.mk rfl h)))
  · rw [i32lt, i32_0] at q
    rw [i32le, ee] at q2
    obtain ⟨n, en, en2, _⟩ := i32nat (x := x) (by omega)
    subst en
    have hne : n ≤ re R := by omega
    have esub : nI (re R) - nI n = nI (re R - n) := by
      rw [i32eq, i32sub (by rw [nIi (by omega), nIi (by omega)]; omega) (by rw [nIi (by omega), nIi (by omega)]; omega), nIi (by omega), nIi (by omega), nIi (by omega)]; omega
    have e14 : (14 : Int32) * nI n = nI (14 * n) := by rw [show (14 : Int32) = nI 14 from rfl, pk_mul]
    refine ok_takeBack B I.e he60 hne (fun hnn => ?_) (fun hlt v1 hS hf h3 h31 h35 => ?_)
    · refine vc_X6_undo B (om_in B (fun _ _ => nb1 ?_) (fun a => absurd ⟨by rw [i32_0]; omega, by rw [eE]; omega⟩ a))
      rw [I.E, esub, hnn, Nat.sub_self]
      exact bt (by decide) (Pr.mk rfl h)
    · have k1 : ∀ a, 200 ≤ a → v1.1 a = v.1 a := fun a ha => hS.2 a (by simp; omega)
      have E1 : v1.1 200 24 = nI (re R) := by rw [k1 200 (by decide)]; exact I.E
      refine vc_X6_undo B (om_in B (fun _ _ => nb1 ?_) (fun a => absurd ⟨by rw [i32_0]; omega, by rw [E1, nIi (n := re R) (by omega)]; omega⟩ a))
      rw [E1, esub, e14]
      refine bf (by rw [i32le, i32_0, nIi (by omega)]; omega) (om_read B (bI_226 B) ⟨by decide, by decide⟩ (by decide) (by omega) (fun v3 hS3 g1 g2 v4 e4 => ?_))
      obtain ⟨⟨a0, a1, a2, a3⟩, ab, ac, ad⟩ := I.2.2.1
      obtain ⟨⟨b0, b1, b2, b3⟩, bb, bc, bd⟩ := I.2.2.2.1
      obtain ⟨w1, w2, w3⟩ := ad n hlt
      obtain ⟨u1, u2, u3⟩ := bd n hlt
      have k4 : ∀ a, a ≠ 200 → a ≠ 210 → a ≠ 214 → v4.1 a = v1.1 a := fun a q1 q2 q3 => by rw [e4, wV_ne q1, hS3.2 a (by simp; omega)]
      have f4 : ∀ f, f ≠ 24 → v4.1 200 f = v.1 200 f := fun f hf => by rw [e4, wV_other _ _ _ _ _ hf, hS3.2 200 (by decide), k1 200 (by decide)]
      refine Pr.mk rfl (h.land (R' := (rD R, rh R n, n, rn R n, rp R, rh R, rn R)) (fun a ha => ?_) (f4 0 (by decide)) (f4 2 (by decide)) ⟨hO.1, hO.2.2.2 n hlt, by show n ≤ 60; omega, fun k hk => hO.2.2.2 k (by have : k < n := hk; omega)⟩ (LK.rf _) ⟨⟨?_, ?_, ?_, ?_⟩, fun i hi => ?_, fun x hx => ?_, fun k hk => ?_⟩ ⟨⟨?_, ?_, ?_, ?_⟩, fun i hi => ?_, fun x hx => ?_, fun k hk => ?_⟩)
      · simp [landL] at ha
        rw [k4 a (by omega) (by omega) (by omega), hS.2 a (by simp; omega)]
      · rw [k4 30 (by decide) (by decide) (by decide), hf 0 (by decide)]; exact a0
      · rw [k4 30 (by decide) (by decide) (by decide), hf 1 (by decide)]; exact a1
      · rw [k4 30 (by decide) (by decide) (by decide), hf 2 (by decide)]; exact a2
      · rw [k4 30 (by decide) (by decide) (by decide)]; exact h3
      · have hi' : i < db (rD R) := hi
        rw [k4 _ (by decide) (by decide) (by decide), k4 _ (by decide) (by decide) (by decide), k4 _ (by decide) (by decide) (by decide), k4 _ (by decide) (by decide) (by decide), hS.2 (30 + 4) (by decide), hS.2 (30 + 2) (by decide), hS.2 (30 + 3) (by decide), show 30 + 5 = 35 from rfl, h35, cpy_in (Nat.zero_le _) (by omega), Nat.sub_zero]
        exact ⟨(ab i hi).1, (ab i hi).2.1, (ab i hi).2.2.1, w3 i hi⟩
      · have hx' : x < dn (rD R) := hx
        rw [k4 _ (by decide) (by decide) (by decide), show 30 + 1 = 31 from rfl, h31, cpy_in (Nat.zero_le _) (by omega), Nat.sub_zero]
        exact w2 x hx
      · rw [k4 _ (by decide) (by decide) (by decide), k4 _ (by decide) (by decide) (by decide), k4 _ (by decide) (by decide) (by decide), hS.2 (30 + 6) (by decide), hS.2 (30 + 7) (by decide), hS.2 (30 + 8) (by decide)]
        exact ad k (by have : k < n := hk; omega)
      · rw [f4 8 (by decide)]; exact b0
      · rw [f4 9 (by decide)]; exact b1
      · rw [f4 15 (by decide)]; exact b2
      · rw [e4, wV_at]
      · have hi' : i < db (rD R) := hi
        rw [k4 211 (by decide) (by decide) (by decide), k4 212 (by decide) (by decide) (by decide), k4 213 (by decide) (by decide) (by decide), k1 211 (by decide), k1 212 (by decide), k1 213 (by decide), e4, wV_ne (by decide), g2 i (by omega), k1 226 (by decide)]
        exact ⟨(bb i hi).1, (bb i hi).2.1, (bb i hi).2.2.1, u3 i hi⟩
      · have hx' : x < dn (rD R) := hx
        rw [e4, wV_ne (by decide), g1 x (by omega), k1 226 (by decide)]
        exact u2 x hx
      · rw [k4 225 (by decide) (by decide) (by decide), k4 226 (by decide) (by decide) (by decide), k1 225 (by decide), k1 226 (by decide)]
        exact bd k (by have : k < n := hk; omega)
  · rw [i32lt, i32_0] at q
    rw [i32le, ee] at q2
    exact vc_X6_undo B (om_in B (fun a b => by rw [eE] at b; omega) (fun _ => nb0 (Pr.mk rfl h)))
end PEVE
