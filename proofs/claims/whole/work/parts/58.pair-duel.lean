/-! pairs: keeps, rivals, flat, raise -/
theorem QS.mpx {f0 : Nat} {v v1 : xS} (h : MPx f0 0 v v1) (hb : Back v v1) (hf : 24 < f0) : QS v v1 := by
  refine ⟨fun a ha => h.2.1 a (fun q => ha ?_), ⟨h.2.2.1 0 (by omega), h.2.2.1 2 (by omega), h.2.2.1 8 (by omega), h.2.2.1 9 (by omega), h.2.2.1 15 (by omega), h.2.2.1 24 (by omega)⟩, hb⟩
  simp [scM] at q
  simp [scr]
  omega
theorem QS.f {v v1 : xS} {f : Nat} {x : Int32} (h : QS v v1) (hf : 24 < f) : QS v (wV v1 200 f x) := by
  refine h.trans ⟨fun a ha => by rw [wV_ne (by intro q; rw [q] at ha; exact ha (by decide))], ?_, fun y _ => by rw [wV_ne (by decide)], fun y _ => by rw [wV_ne (by decide)]⟩
  rw [wV_other _ _ _ _ _ (by omega), wV_other _ _ _ _ _ (by omega), wV_other _ _ _ _ _ (by omega), wV_other _ _ _ _ _ (by omega), wV_other _ _ _ _ _ (by omega), wV_other _ _ _ _ _ (by omega)]
  exact ⟨rfl, rfl, rfl, rfl, rfl, rfl⟩
section PDUEL
variable {G : xG} {d : Nat} {z : xZ} {v : xS} {R : xR}
theorem pr_keeps (B : Base z) (h : InvR z v R) {x : Int32} : oX5_keeps G (d + 16) [.ref 0, .int x] z v (fun r v1 => oX6_keeps G (d + 16) [.ref 200, .int x] z v1 (fun r' v2 => Pr z r r' v2)) := by
  have I := h.1
  have hn := I.D.1
  have hp27 := pow3 I.D.2.1
  have hp1 : 1 ≤ 3 ^ db (rD R) := Nat.one_le_pow _ _ (by decide)
  by_cases cx : inR x (dn (rD R))
  case neg => exact vc_X5_keeps B (ok_isSpot B I.LC I.D (fun q => absurd q cx) (fun _ => nb0 (vc_X6_keeps B (om_isSpot B I.LM I.D (fun q => absurd q cx) (fun _ => nb0 (Pr.mk rfl h))))))
  obtain ⟨j, hj, ej, _⟩ := inR_of cx
  subst ej
  have vj := vpN (j := j) (n := 10) (by omega) (by omega)
  have hkl := sKp_le (D := rD R) (rg R) j (3 ^ db (rD R) - 1)
  refine vc_X5_keeps B (ok_isSpot B I.LC I.D (fun _ => nb1 (ok_loudestKeeping B I.LC I.D I.g I.s hj (fun v1 hS => ?_))) (fun q => absurd cx q))
  have J0 := Jv.q h (QS.of hS)
  refine ok_breathOf B J0.1.LC I.D (by omega) (ok_tell B ?_)
  have J1 := Jv.tell (y := nI (sKp (rD R) (rg R) j (3 ^ db (rD R) - 1))) J0
  generalize wV v1 0 10 (nI (sKp (rD R) (rg R) j (3 ^ db (rD R) - 1))) = u at J1
  refine vc_X6_keeps B (om_isSpot B J1.1.LM I.D (fun _ => nb1 (om_ahead B (fun w hA hBk => ⟨vj, ?_⟩))) (fun q => absurd cx q))
  rw [clN (by omega), J1.1.G.back I.D hBk j hj]
  have loop : ∀ (c t : Nat) (u1 : xS), t + 1 + c = 3 ^ db (rD R) → AS u u1 → Back u u1 → QS u u1 → aX6_keeps G (d + 16) 29 [some (.ref 200), some (.int (nI j)), some (.int (nI (sKp (rD R) (rg R) j t))), some (.int (nI (eB (rD R) (sKp (rD R) (rg R) j t)))), some (.int (nI (rg R j))), some (.int (nI (t + 1))), none] [] z u1 (fun r' v2 => Pr z (nI (eB (rD R) (sKp (rD R) (rg R) j (3 ^ db (rD R) - 1)))) r' v2) := by
    intro c
    induction c with
    | zero =>
      intro t u1 ht hA hB hQ
      have et : t = 3 ^ db (rD R) - 1 := by omega
      refine vc_X6_keeps_29 B (om_programs B (hA.lm J1.1.LM) I.D (bt (by rw [i32le, nIi (by omega), nIi (by omega)]; omega) ?_))
      rw [et]
      exact om_ask B (Pr.mk rfl (J1.q hQ).done)
    | succ c ih =>
      intro t u1 ht hA hB hQ
      have hb1 := eB_le I.D (t + 1)
      have hb2 := eB_le I.D (sKp (rD R) (rg R) j t)
      have hg1 : eG (rD R) (t + 1) (rg R) j ≤ 90 := by
        refine Nat.le_trans (sm_le (g := eG (rD R) (t + 1) (rg R)) hj) ?_
        rw [sEvG_sm]; exact I.s
      have hg2 : rg R j ≤ 90 := Nat.le_trans (sm_le hj) I.s
      have keep : ¬ (eB (rD R) (sKp (rD R) (rg R) j t) < eB (rD R) (t + 1) ∧ eG (rD R) (t + 1) (rg R) j = rg R j) → sKp (rD R) (rg R) j (t + 1) = sKp (rD R) (rg R) j t := fun q => by rw [sKp, if_neg q]
      refine vc_X6_keeps_29 B (om_programs B (hA.lm J1.1.LM) I.D (bf (by rw [i32le, nIi (by omega), nIi (by omega)]; omega) (om_passEvening B (hA.lm J1.1.LM) I.D (J1.1.G.back I.D hB) I.s (by omega) (fun u2 hS2 hG2 _ => ⟨vj, ?_⟩))))
      rw [clN (by omega), hG2 j hj, nI_1]
      have hA2 := hA.pass hS2
      refine ⟨fun q => om_back B hA2 (fun u3 hA3 hB3 hQ3 => ?_), fun q => om_breathOf B (hA2.lm J1.1.LM) I.D (by omega) ⟨fun q2 => om_back B hA2 (fun u3 hA3 hB3 hQ3 => ?_), fun q2 => om_back B hA2 (fun u3 hA3 hB3 hQ3 => om_breathOf B (hA3.lm J1.1.LM) I.D (by omega) ?_)⟩⟩
      · have := ih (t + 1) u3 (by omega) hA3 hB3 hQ3
        rw [keep (fun w => q (by rw [w.2]))] at this
        exact this
      · rw [i32le, nIi (by omega), nIi (by omega)] at q2
        have := ih (t + 1) u3 (by omega) hA3 hB3 hQ3
        rw [keep (fun w => by omega)] at this
        exact this
      · rw [i32le, nIi (by omega), nIi (by omega)] at q2
        have := ih (t + 1) u3 (by omega) hA3 hB3 hQ3
        rw [sKp, if_pos ⟨by omega, nIinj (by omega) (by omega) q⟩] at this
        exact this
  have := loop (3 ^ db (rD R) - 1) 0 w (by omega) hA hBk (QS.ofB hA.1 hBk)
  rw [show sKp (rD R) (rg R) j 0 = 0 from rfl, show eB (rD R) 0 = 0 from eB_0 _ _] at this
  exact this
theorem pr_rivals (B : Base z) (h : InvR z v R) {x y t n : Int32} : oX5_rivals G (d + 16) [.ref 0, .int x, .int y, .int t, .int n] z v (fun r v1 => oX6_rivals G (d + 16) [.ref 200, .int x, .int y, .int t, .int n] z v1 (fun r' v2 => Pr z r r' v2)) := by
  have I := h.1
  have hn := I.D.1
  have hb := I.D.2.1
  by_cases cx : inR x (db (rD R))
  case neg => exact vc_X5_rivals B (ok_isBand B I.LC I.D (fun q => absurd q cx) (fun _ => br0 (vc_X6_rivals B (om_isBand B I.LM I.D (fun q => absurd q cx) (fun _ => br0 (Pr.mk rfl h))))))
  by_cases cy : inR y (db (rD R))
  case neg => exact vc_X5_rivals B (ok_isBand B I.LC I.D (fun _ => br1 (ok_isBand B I.LC I.D (fun q => absurd q cy) (fun _ => br0 (vc_X6_rivals B (om_isBand B I.LM I.D (fun _ => br1 (om_isBand B I.LM I.D (fun q => absurd q cy) (fun _ => br0 (Pr.mk rfl h)))) (fun q => absurd cx q)))))) (fun q => absurd cx q))
  refine vc_X5_rivals B (ok_isBand B I.LC I.D (fun _ => br1 (ok_isBand B I.LC I.D (fun _ => br1 ⟨fun q => ?_, fun q => ?_⟩) (fun q => absurd cy q))) (fun q => absurd cx q))
  · by_cases ct : inR t (dn (rD R))
    case neg => exact ok_isSpot B I.LC I.D (fun w => absurd w ct) (fun _ => br0 (vc_X6_rivals B (om_isBand B I.LM I.D (fun _ => br1 (om_isBand B I.LM I.D (fun _ => br1 (bf q (om_isSpot B I.LM I.D (fun w => absurd w ct) (fun _ => br0 (Pr.mk rfl h))))) (fun w => absurd cy w))) (fun w => absurd cx w))))
    have mbad : ¬ (0 ≤ n.toInt ∧ n.toInt ≤ 6) → oX6_rivals G (d + 16) [.ref 200, .int x, .int y, .int t, .int n] z v (fun r' v2 => Pr z (-1) r' v2) := fun hw =>
      vc_X6_rivals B (om_isBand B I.LM I.D (fun _ => br1 (om_isBand B I.LM I.D (fun _ => br1 (bf q (om_isSpot B I.LM I.D (fun _ => br1 (om_in B (fun a b => absurd ⟨by rw [i32_0] at a; exact a, by rw [i32_6] at b; exact b⟩ hw) (fun _ => nb0 (Pr.mk rfl h)))) (fun w => absurd ct w)))) (fun w => absurd cy w))) (fun w => absurd cx w))
    refine ok_isSpot B I.LC I.D (fun _ => br1 ⟨fun q1 => mbad (by rw [i32lt, i32_0] at q1; omega), fun q1 => ⟨fun q2 => ?_, fun q2 => mbad (by rw [i32le, i32_6] at q2; omega)⟩⟩) (fun w => absurd ct w)
    rw [i32lt, i32_0] at q1
    rw [i32le, i32_6] at q2
    obtain ⟨i, hi, ei, _⟩ := inR_of cx
    obtain ⟨j, hj, ej, _⟩ := inR_of cy
    obtain ⟨k, hk, ek, _⟩ := inR_of ct
    obtain ⟨N, eN, eN2, _⟩ := i32nat (x := n) (by omega)
    subst ei ej ek eN
    have hN : N ≤ 6 := by omega
    have e1 : d + 15 = (d + (10 - N)) + 4 + N + 1 := by omega
    rw [e1]
    refine ok_duel B I.D hi hj hk hN I.LC I.g I.s (fun v1 hS h7 => ?_)
    rw [← e1]
    refine ok_tell B ?_
    rw [h7]
    have J1 := Jv.tell (y := nI (sDuF (rD R) i j k N (rg R))) (Jv.q h (QS.of hS))
    generalize wV v1 0 10 (nI (sDuF (rD R) i j k N (rg R))) = u at J1
    refine vc_X6_rivals B (om_isBand B J1.1.LM I.D (fun _ => br1 (om_isBand B J1.1.LM I.D (fun _ => br1 (bf q (om_isSpot B J1.1.LM I.D (fun _ => br1 (om_in B (fun _ _ => nb1 (fun v9 e9 => ?_)) (fun a => absurd ⟨by rw [i32_0]; omega, by rw [i32_6]; omega⟩ a))) (fun w => absurd ct w)))) (fun w => absurd cy w))) (fun w => absurd cx w))
    have J2 : Jv z v9 R _ := Jv.q J1 (by rw [e9]; exact (QS.rf u).f (by decide))
    have e2 : d + 15 = (d + (9 - N)) + N + 6 := by omega
    rw [e2]
    refine om_rivalOn B I.D hi hj hk hN N 0 v9 (rg R) _ (by omega) J2.1.LM J2.1.G I.s (fun v10 hM hBk h0 h37 => ?_)
    rw [← e2]
    have f37 : v10.1 200 37 = nI (sDuF (rD R) i j k N (rg R)) := by
      by_cases hN0 : N = 0
      · rw [h0 hN0, e9, wV_at, hN0]; rfl
      · exact h37 rfl (by omega)
    rw [f37]
    exact om_ask B (Pr.mk rfl (J2.q (QS.mpx hM hBk (by decide))).done)
  · exact vc_X6_rivals B (om_isBand B I.LM I.D (fun _ => br1 (om_isBand B I.LM I.D (fun _ => br1 (bt q (Pr.mk rfl h))) (fun w => absurd cy w))) (fun w => absurd cx w))
end PDUEL
