/-! the reference: rivals, rows, what was played, an evening truly -/
theorem i32_m9 : (-9 : Int32).toInt = -9 := by decide
theorem i32_40 : (40 : Int32).toInt = 40 := by decide
theorem nI_ne9 {a : Nat} (h : a < 2147483648) : nI a ≠ -9 := fun q => by
  have := (i32eq _ _).mp q
  rw [nIi h, i32_m9] at this
  omega
theorem sPick_ix (up : Bool) (f : Nat → Nat) : ∀ t, (sPick up f t).2 ≤ t
  | 0 => Nat.le_refl _
  | t + 1 => by
    rw [sPick]
    split
    · exact Nat.le_refl _
    · exact Nat.le_succ_of_le (sPick_ix up f t)
/-- behind a deeper turn -/
def xRc (A : Int32 → Int32 → xS → Prop) (l6 l7 l8 l9 r : Int32) (w : xS) : Prop :=
  (l7 = -9 → A l9 r w) ∧ (¬ l7 = -9 → ((l6 = 0 → ((l8 ≤ r → A l7 l8 w) ∧ (¬ l8 ≤ r → A l9 r w))) ∧ (¬ l6 = 0 → ((r ≤ l8 → A l7 l8 w) ∧ (¬ r ≤ l8 → A l9 r w)))))
section MRIV
variable {G : xG} {d : Nat} {z : xZ} {D : xD}
theorem om_rivalOn (B : Base z) (hD : DB D) {i j x N : Nat} (hi : i < db D) (hj : j < db D) (hx : x < dn D) (hN : N ≤ 6) : ∀ (m k : Nat) (v : xS) (g : Nat → Nat) (Q : Int32 → xS → Prop), k + m = N → LM v D → Gd v 210 D g → sm g (dn D) ≤ 90 →
    (∀ v1, MPx 37 k v v1 → Back v v1 → (m = 0 → v1 = v) → (k = 0 → 0 < m → v1.1 200 37 = nI (sDuF D i j x m g)) → Q (nI (sDu D i j x m (decide (k % 2 = 0)) g)) v1) → oX6_rivalOn G (d + m + 6) [.ref 200, .int (nI i), .int (nI j), .int (nI x), .int (nI k), .int (nI N)] z v Q := by
  have hn := hD.1
  intro m
  induction m with
  | zero =>
    intro k v g Q hk hL hG hs hq
    have hkN : k = N := by omega
    subst hkN
    refine vc_X6_rivalOn B (nf rfl ⟨vpN (by omega) (by omega), ?_⟩)
    rw [clN (by omega), hG x hx]
    exact hq v (MPx.rf _ _ _) (Back.rf _) (fun _ => rfl) (fun _ h => absurd h (Nat.lt_irrefl 0))
  | succ m ih =>
    intro k v g Q hk hL hG hs hq
    obtain ⟨up, hup⟩ : ∃ up : Bool, up = decide (k % 2 = 0) := ⟨_, rfl⟩
    rw [← hup] at hq
    obtain ⟨bn, hbn⟩ : ∃ bn : Nat, bn = if up = true then i else j := ⟨_, rfl⟩
    have hbn1 : bn < db D := by rw [hbn]; split <;> assumption
    obtain ⟨f, hf⟩ : ∃ f : Nat → Nat, f = fun t => sDu D i j x m (!up) (sTune D bn t g).1 := ⟨_, rfl⟩
    have hfle : ∀ t, f t ≤ 90 := fun t => by rw [hf]; exact sDu_le D i j hx m _ _ (by rw [sTune_sm]; exact hs)
    have hple := fun t => sPick_val up f 90 hfle t
    have hupn : decide ((k + 1) % 2 = 0) = !up := by
      rw [hup]
      by_cases h : k % 2 = 0
      · have h2 : ¬ (k + 1) % 2 = 0 := by omega
        simp [h, h2]
      · have h2 : (k + 1) % 2 = 0 := by omega
        simp [h, h2]
    obtain ⟨l6, hl6⟩ : ∃ l6 : Int32, l6 = if up = true then 1 else 0 := ⟨_, rfl⟩
    have u0 : l6 = 0 → up = false := fun q => by
      cases hh : up
      · rfl
      · rw [hl6, hh] at q; exact absurd q (by decide)
    have u1 : ¬ l6 = 0 → up = true := fun q => by
      cases hh : up
      · rw [hl6, hh] at q; exact absurd rfl q
      · rfl
    have ek1 : nI k + 1 = nI (k + 1) := nI_1 k
    have e14 : (14 : Int32) * nI k = nI (14 * k) := by rw [show (14 : Int32) = nI 14 from rfl, pk_mul]
    have hq1 : ∀ v1, MPx 37 k v v1 → Back v v1 → v1.1 200 37 = nI (sPick up f 2).2 → Q (nI (sPick up f 2).1) v1 := by
      intro v1 h1 h2 h3
      have := hq v1 h1 h2 (fun q => absurd q (Nat.succ_ne_zero _))
      rw [sDu, ← hbn, ← hf] at this
      refine this (fun k0 _ => ?_)
      have u1 : up = true := by rw [hup, k0]; rfl
      rw [h3, sDuF, hf, hbn, u1]
      rfl
    have loop : ∀ (c t : Nat) (v1 : xS) (l7 l8 : Int32), t + c = 3 → MPx 37 k v v1 → Back v v1 → Noted v v1 230 (14 * k) → (t = 0 → l7 = -9) → (0 < t → l7 = nI (sPick up f (t - 1)).2 ∧ l8 = nI (sPick up f (t - 1)).1) → aX6_rivalOn G (d + (m + 1) + 6) 51 [some (.ref 200), some (.int (nI i)), some (.int (nI j)), some (.int (nI x)), some (.int (nI k)), some (.int (nI N)), some (.int l6), some (.int l7), some (.int l8), some (.int (nI t)), none, none] [] z v1 Q := by
      intro c
      induction c with
      | zero =>
        intro t v1 l7 l8 ht hM hBk hNt h70 h7
        have et : t = 3 := by omega
        subst et
        refine vc_X6_rivalOn_51 B (bt (by decide) (fun v2 e2 => ?_))
        obtain ⟨e7, e8⟩ := h7 (by decide)
        subst e2
        rw [e7, e8]
        refine hq1 _ (hM.trans ⟨rfl, fun a ha => wV_ne (by intro q; rw [q] at ha; exact ha (by decide)), fun f hf => wV_other _ _ _ _ _ hf, fun q _ => by rw [wV_ne (by decide)], fun q _ => by rw [wV_ne (by decide)]⟩) (hBk.trans ⟨fun q _ => by rw [wV_ne (by decide)], fun q _ => by rw [wV_ne (by decide)]⟩) (wV_at _ _ _ _)
      | succ c ihc =>
        intro t v1 l7 l8 ht hM hBk hNt h70 h7
        have et1 : nI t + 1 = nI (t + 1) := nI_1 t
        have deep : oX6_play G (d + m + 6) [.ref 200, .int (nI bn), .int (nI t)] z v1 (fun _ v2 => oX6_rivalOn G (d + m + 6) [.ref 200, .int (nI i), .int (nI j), .int (nI x), .int (nI (k + 1)), .int (nI N)] z v2 (fun r5 v4 => oX6_read G (d + m + 6) [.ref 200, .ref 230, .int (nI (14 * k))] z v4 (fun v6 => xRc (fun a b w => aX6_rivalOn G (d + (m + 1) + 6) 51 [some (.ref 200), some (.int (nI i)), some (.int (nI j)), some (.int (nI x)), some (.int (nI k)), some (.int (nI N)), some (.int l6), some (.int a), some (.int b), some (.int (nI (t + 1))), none, none] [] z w Q) l6 l7 l8 (nI t) r5 v6))) := by
          have hG1 : Gd v1 210 D g := hG.back hD hBk
          refine om_play B (hL.mp (by decide) hM) hD hG1 hs hbn1 (by omega) (fun v2 hS2 hG2 => ?_)
          have hM2 : MPx 37 k v1 v2 := MPx.of hS2 (by simp)
          refine ih (k + 1) v2 _ _ (by omega) (hL.mp (by decide) (hM.trans hM2)) hG2 (by rw [sTune_sm]; exact hs) (fun v4 hM4 hBk4 _ _ => ?_)
          have n4 : Noted v v4 230 (14 * k) := by
            refine ⟨fun q hq => ?_, fun q hq => ?_⟩
            · rw [hM4.2.2.2.1 _ (by omega), Same1 hS2 (by decide)]; exact hNt.1 q hq
            · rw [hM4.2.2.2.1 _ (by omega), Same1 hS2 (by decide)]; exact hNt.2 q hq
          refine om_read B (bI_230 B) ⟨by decide, by decide⟩ (by decide) (by omega) (fun v6 hS6 h1 h2 => ?_)
          have hM6 : MPx 37 k v v6 := (hM.trans hM2).trans (hM4.down.trans (MPx.of hS6 (by simp)))
          have hB6 : Back v v6 := ⟨fun q hq => (h1 q hq).trans (n4.1 q hq), fun q hq => (h2 q hq).trans (n4.2 q hq)⟩
          have hN6 : Noted v v6 230 (14 * k) := by
            refine ⟨fun q hq => ?_, fun q hq => ?_⟩
            · rw [hS6.2 230 (by decide)]; exact n4.1 q hq
            · rw [hS6.2 230 (by decide)]; exact n4.2 q hq
          have e9 : sDu D i j x m (decide ((k + 1) % 2 = 0)) (sTune D bn t g).1 = f t := by rw [hf, hupn]
          rw [e9]
          have hft := hfle t
          have take : (sPick up f t = (f t, t)) → aX6_rivalOn G (d + (m + 1) + 6) 51 [some (.ref 200), some (.int (nI i)), some (.int (nI j)), some (.int (nI x)), some (.int (nI k)), some (.int (nI N)), some (.int l6), some (.int (nI t)), some (.int (nI (f t))), some (.int (nI (t + 1))), none, none] [] z v6 Q := fun hp =>
            ihc (t + 1) v6 _ _ (by omega) hM6 hB6 hN6 (fun q => absurd q (Nat.succ_ne_zero _)) (fun _ => by rw [Nat.add_sub_cancel, hp]; exact ⟨rfl, rfl⟩)
          have stay : sPick up f t = sPick up f (t - 1) → 0 < t → aX6_rivalOn G (d + (m + 1) + 6) 51 [some (.ref 200), some (.int (nI i)), some (.int (nI j)), some (.int (nI x)), some (.int (nI k)), some (.int (nI N)), some (.int l6), some (.int l7), some (.int l8), some (.int (nI (t + 1))), none, none] [] z v6 Q := fun hp h0 =>
            ihc (t + 1) v6 _ _ (by omega) hM6 hB6 hN6 (fun q => absurd q (Nat.succ_ne_zero _)) (fun _ => by rw [Nat.add_sub_cancel, hp]; exact h7 h0)
          have c9 : l7 = -9 ↔ t = 0 := by
            refine ⟨fun q => ?_, h70⟩
            by_cases h : t = 0
            · exact h
            · rw [(h7 (by omega)).1] at q
              have := sPick_ix up f (t - 1)
              exact absurd q (nI_ne9 (by omega))
          unfold xRc
          refine ⟨fun q => take ?_, fun q => ?_⟩
          · rw [c9.mp q]; rfl
          · have t0 : t ≠ 0 := fun h => q (c9.mpr h)
            obtain ⟨s, rfl⟩ : ∃ s, t = s + 1 := ⟨t - 1, by omega⟩
            have hold := (h7 (by omega)).2
            rw [Nat.add_sub_cancel] at hold stay
            have hps := hple s
            have e2 : sPick up f (s + 1) = if sBetter up (f (s + 1)) (sPick up f s).1 = true then (f (s + 1), s + 1) else sPick up f s := rfl
            refine ⟨fun w0 => ⟨fun c1 => stay ?_ (by omega), fun c1 => take ?_⟩, fun w1 => ⟨fun c1 => stay ?_ (by omega), fun c1 => take ?_⟩⟩
            · have hu := u0 w0
              rw [hold, i32le, nIi (by omega), nIi (by omega)] at c1
              rw [e2, if_neg (by rw [hu]; simp [sBetter]; rw [← hu]; omega)]
            · have hu := u0 w0
              rw [hold, i32le, nIi (by omega), nIi (by omega)] at c1
              rw [e2, if_pos (by rw [hu]; simp [sBetter]; rw [← hu]; omega)]
            · have hu := u1 w1
              rw [hold, i32le, nIi (by omega), nIi (by omega)] at c1
              rw [e2, if_neg (by rw [hu]; simp [sBetter]; rw [← hu]; omega)]
            · have hu := u1 w1
              rw [hold, i32le, nIi (by omega), nIi (by omega)] at c1
              rw [e2, if_pos (by rw [hu]; simp [sBetter]; rw [← hu]; omega)]
        refine vc_X6_rivalOn_51 B (bf (by rw [i32le, i32_3, nIi (by omega)]; omega) ?_)
        rw [ek1, e14, et1]
        refine ⟨fun w0 => ?_, fun w1 => ?_⟩
        · rw [hbn, if_neg (by rw [u0 w0]; decide)] at deep
          exact deep
        · rw [hbn, if_pos (u1 w1)] at deep
          exact deep
    refine vc_X6_rivalOn B (nt (fun q => by have := nIinj (by omega) (by omega) q; omega) ?_)
    rw [e14]
    refine om_write B (bI_230 B) ⟨by decide, by decide⟩ (by decide) (by omega) (fun v1 hS h1 h2 h3 => ?_)
    have start := loop 3 0 v1 (-9) 0 (by omega) ⟨hS.1, fun a ha => Same1 hS (by intro q; rw [q] at ha; exact ha (by decide)), fun f _ => by rw [Same1 hS (by decide)], fun q hq => h3 q (by omega), fun q _ => by rw [Same1 hS (by decide)]⟩ ⟨fun q _ => by rw [Same1 hS (by decide)], fun q _ => by rw [Same1 hS (by decide)]⟩ ⟨h1, h2⟩ (fun _ => rfl) (fun h => absurd h (Nat.lt_irrefl 0))
    rw [rem2 (a := k) (by omega)]
    refine ⟨fun c0 => ?_, fun c0 => ?_⟩
    · have : l6 = 0 := by rw [hl6, if_neg (by rw [hup]; intro q; exact c0 (by rw [of_decide_eq_true q]; rfl))]
      rw [this] at start
      exact start
    · have : l6 = 1 := by rw [hl6, if_pos (by rw [hup]; exact decide_eq_true (nIinj (b := 0) (by omega) (by omega) c0))]
      rw [this] at start
      exact start
end MRIV
