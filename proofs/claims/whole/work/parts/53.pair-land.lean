/-! pairs: fault, land -/
theorem QS.mg {v v1 : xS} (h : MG v v1) : QS v v1 := by
  refine ⟨fun a ha => h.2.1 a (fun q => ha ?_), ⟨h.2.2 0 (by decide) (by decide) (by decide), h.2.2 2 (by decide) (by decide) (by decide), h.2.2 8 (by decide) (by decide) (by decide), h.2.2 9 (by decide) (by decide) (by decide), h.2.2 15 (by decide) (by decide) (by decide), h.2.2 24 (by decide) (by decide) (by decide)⟩, fun x _ => by rw [h.2.1 210 (by decide)], fun x _ => by rw [h.2.1 214 (by decide)]⟩
  simp at q
  simp [scr]
  omega
theorem SHL.tx {v : xS} {t n : Nat} (h : SHL v 10 4 80 206 207) (ht : t < 4) (hn : n ≤ 80) (e1 : v.1 (10 + 2) t = nI n) (e2 : v.1 206 t = nI n) (e3 : ∀ k, k < n → v.1 (10 + 3 + t) k = v.1 207 (80 * t + k)) : TX v t n (v.1 (13 + t)) ∧ TM v t n (v.1 (13 + t)) := by
  refine ⟨⟨h.ws (by decide) (by decide), ht, hn, e1, fun i _ => rfl⟩, ht, hn, e2, fun i hi => ?_⟩
  rw [← e3 i hi, show 10 + 3 + t = 13 + t by omega]
theorem TM.qs {v v1 : xS} {t n : Nat} {c : Nat → Int32} (h : TM v t n c) (hs : QS v v1) : TM v1 t n c := ⟨h.1, h.2.1, by rw [hs.1 206 (by decide)]; exact h.2.2.1, fun i hi => by rw [hs.1 207 (by decide)]; exact h.2.2.2 i hi⟩
section PLAND
variable {G : xG} {d : Nat} {z : xZ} {v : xS} {R : xR}
theorem pr_fault (B : Base z) (h : InvR z v R) {x : Int32} : oX5_fault G (d + 16) [.ref 0, .int x] z v (fun r v1 => oX6_fault G (d + 16) [.ref 200, .int x] z v1 (fun r' v2 => Pr z r r' v2)) := by
  have hr := h.1.texts
  refine vc_X5_fault B (ok_names B (bS_10 B) (by decide) (fun c => nb1 ?_) (fun c => nb0 (vc_X6_fault B (om_askedText B (fun _ => bf (by decide) (Pr.mk rfl h)) (fun r hr e => absurd (by rw [e]; exact inR_nI hr (by omega)) c) (fun r hr e => absurd (by rw [e]; exact inR_nI hr (by omega)) c)))))
  obtain ⟨r, hr6, e, _⟩ := inR_of c
  subst e
  refine ok_holds B (bS_10 B) h.1.W10 hr6 (fun q => nb1 ?_) (fun q => nb0 (ok_find (f := 1) B (by decide) (by decide) ?_))
  · rcases hr.2 r hr6 with ⟨c1, c2⟩ | ⟨n, hn, c1, c2, c3⟩
    · rw [c1, i32_m1] at q; omega
    obtain ⟨t1, t2⟩ := hr.tx hr6 hn c1 c2 c3
    refine ok_read B t1 (fun v1 hS _ => ?_)
    have q1 : QS v v1 := QS.of hS
    refine vc_X6_fault B (om_askedText B (fun q => absurd c q) (fun r' hr' e' q2 => ?_) (fun r' hr' e' q2 => bt (by decide) (om_goesOn B (t2.qs q1) (fun v2 hM _ => Pr.mk rfl (h.q (q1.trans (QS.mg hM)))))))
    rw [q1.1 206 (by decide), ← nIinj (by omega) (by omega) e', c2, nIi (by omega)] at q2; omega
  · have g : (fnd v 1).1 206 = v.1 206 := fnd_ne (by decide) (by decide)
    refine vc_X6_fault B (om_askedText B (fun q => absurd c q) (fun r' hr' e' q2 => bf (by decide) (Pr.mk rfl (h.find (by decide) (by decide)).done)) (fun r' hr' e' q2 => ?_))
    rw [g, ← nIinj (by omega) (by omega) e'] at q2
    obtain ⟨n, hn, c1, _⟩ := hr.nonneg (by decide) hr6 q2
    rw [c1] at q
    have := (i32eq _ _).mp q
    rw [nIi (by omega), i32_m1] at this
    omega
theorem ok_begin {Q : xS → Prop} (B : Base z) (hq : ∀ v1, Same [30, 31, 32, 33, 34, 35] v v1 → v1.1 30 0 = v.1 20 4 → v1.1 30 1 = v.1 20 5 → v1.1 30 2 = 0 → v1.1 30 3 = 0 → (∀ x, x < 10 → v1.1 31 x = v.1 21 x) → (∀ i, i < 3 → v1.1 34 i = v.1 22 i ∧ v1.1 32 i = v.1 23 i ∧ v1.1 33 i = v.1 24 i ∧ v1.1 35 i = 0) → Q v1) : oX1_begin G (d + 1) [.ref 30, .ref 20] z v Q := by
  refine vc_X1_begin B (fun v1 e1 v2 e2 v3 e3 v4 e4 v5 e5 v6 e6 v7 e7 v8 e8 => ?_)
  rw [cl0, cl10] at e5
  rw [cl0, cl3] at e6 e7 e8
  have f4 : ∀ a, a ≠ 30 → v4.1 a = v.1 a := fun a ha => by rw [e4, wV_ne ha, e3, wV_ne ha, e2, wV_ne ha, e1, wV_ne ha]
  have r5 : ∀ a, a ≠ 31 → v5.1 a = v4.1 a := fun a ha => by rw [e5, wA_row, if_neg ha]
  have r6 : ∀ a, a ≠ 34 → v6.1 a = v5.1 a := fun a ha => by rw [e6, wA_row, if_neg ha]
  have r7 : ∀ a, a ≠ 32 → v7.1 a = v6.1 a := fun a ha => by rw [e7, wA_row, if_neg ha]
  have r8 : ∀ a, a ≠ 33 → v8.1 a = v7.1 a := fun a ha => by rw [e8, wA_row, if_neg ha]
  have k30 : v8.1 30 = v4.1 30 := by rw [r8 _ (by decide), r7 _ (by decide), r6 _ (by decide), r5 _ (by decide)]
  have a0 : v8.1 30 0 = v.1 20 4 := by rw [k30, e4, wV_other _ _ _ _ _ (by decide), e3, wV_other _ _ _ _ _ (by decide), e2, wV_other _ _ _ _ _ (by decide), e1, wV_at]
  have a1 : v8.1 30 1 = v.1 20 5 := by rw [k30, e4, wV_other _ _ _ _ _ (by decide), e3, wV_other _ _ _ _ _ (by decide), e2, wV_at, e1, wV_ne (by decide)]
  have a2 : v8.1 30 2 = 0 := by rw [k30, e4, wV_other _ _ _ _ _ (by decide), e3, wV_at]
  have a3 : v8.1 30 3 = 0 := by rw [k30, e4, wV_at]
  have a31 : ∀ x, x < 10 → v8.1 31 x = v.1 21 x := fun x hx => by rw [r8 _ (by decide), r7 _ (by decide), r6 _ (by decide), e5, wA_row, if_pos rfl, cpyN hx, f4 _ (by decide)]
  have a34 : ∀ x, x < 3 → v8.1 34 x = v.1 22 x := fun x hx => by rw [r8 _ (by decide), r7 _ (by decide), e6, wA_row, if_pos rfl, cpyN hx, r5 _ (by decide), f4 _ (by decide)]
  have a32 : ∀ x, x < 3 → v8.1 32 x = v.1 23 x := fun x hx => by rw [r8 _ (by decide), e7, wA_row, if_pos rfl, cpyN hx, r6 _ (by decide), r5 _ (by decide), f4 _ (by decide)]
  have a33 : ∀ x, x < 3 → v8.1 33 x = v.1 24 x := fun x hx => by rw [e8, wA_row, if_pos rfl, cpyN hx, r7 _ (by decide), r6 _ (by decide), r5 _ (by decide), f4 _ (by decide)]
  have S8 : Same [30, 31, 32, 33, 34, 35] v v8 := by
    rw [e8, e7, e6, e5, e4, e3, e2, e1]
    exact ((((((((Same.rf _ _).wV (by simp)).wV (by simp)).wV (by simp)).wV (by simp)).wA (by simp)).wA (by simp)).wA (by simp)).wA (by simp)
  have loop : ∀ (c i : Nat) (w : xS), i + c = 3 → Same [35] v8 w → (∀ k, k < i → w.1 35 k = 0) → aX1_begin G (d + 1) 85 [some (.ref 30), some (.ref 20), some (.int (nI i))] [] z w Q := by
    intro c
    induction c with
    | zero =>
      intro i w hi hS h5
      have : i = 3 := by omega
      subst this
      refine vc_X1_begin_85 B (bt (by decide) (hq w (S8.trans (hS.mono (by simp))) ?_ ?_ ?_ ?_ (fun x hx => ?_) (fun k hk => ?_)))
      · rw [Same1 hS (by decide)]; exact a0
      · rw [Same1 hS (by decide)]; exact a1
      · rw [Same1 hS (by decide)]; exact a2
      · rw [Same1 hS (by decide)]; exact a3
      · rw [Same1 hS (by decide)]; exact a31 x hx
      · rw [Same1 hS (by decide), Same1 hS (by decide), Same1 hS (by decide)]; exact ⟨a34 k hk, a32 k hk, a33 k hk, h5 k hk⟩
    | succ c ih =>
      intro i w hi hS h5
      refine vc_X1_begin_85 B (bf (by rw [i32le, i32_3, nIi (by omega)]; omega) ⟨vpN (by omega) (by omega), fun w2 e => ?_⟩)
      rw [clN (by omega)] at e
      subst e
      rw [nI_1]
      refine ih (i + 1) _ (by omega) (hS.wV (by simp)) (fun k hk => ?_)
      by_cases hki : k = i
      · rw [hki, wV_at]
      · rw [wV_other _ _ _ _ _ hki]; exact h5 k (by omega)
  exact loop 3 0 v8 rfl (Same.rf _ _) (fun k hk => absurd hk (Nat.not_lt_zero _))
/-- the reference's land anew -/
def LdM (v w : xS) (n b : Nat) : Prop := (∀ a, a ∉ [200, 210, 211, 212, 213, 214, 227] → w.1 a = v.1 a) ∧ (w.1 200 8 = nI n ∧ w.1 200 9 = nI b ∧ w.1 200 15 = 0 ∧ w.1 200 24 = 0 ∧ w.1 200 0 = v.1 200 0 ∧ w.1 200 2 = v.1 200 2) ∧ (∀ x, x < n → w.1 210 x = v.1 219 x) ∧ (∀ i, i < 3 → w.1 211 i = v.1 220 i ∧ w.1 212 i = v.1 221 i ∧ w.1 213 i = v.1 222 i ∧ w.1 214 i = 0) ∧ ∀ k, k < 3 → w.1 227 (920 * k) = -9
theorem e920 (k : Nat) : (920 : Int32) * nI k = nI (920 * k) := by rw [show (920 : Int32) = nI 920 from rfl, pk_mul]
theorem om_landGo {Q : Int32 → xS → Prop} {n b : Nat} {l1 l2 : Int32} (B : Base z) (hn : n ≤ 10) (h8 : v.1 200 17 = nI n) (h9 : v.1 200 18 = nI b) (hq : ∀ w, LdM v w n b → Q (nI n) w) : ∀ v6 : xS, v6 = wV (wV v 200 8 (nI n)) 200 9 (nI b) → aX6_land G (d + 1) 43 [some (.ref 200), some (.int l1), some (.int l2), some (.int 0)] [] z v6 Q := by
  intro v6 e6
  have f6 : ∀ a, a ≠ 200 → v6.1 a = v.1 a := fun a ha => by rw [e6, wV_ne ha, wV_ne ha]
  have g8 : v6.1 200 8 = nI n := by rw [e6, wV_other _ _ _ _ _ (by decide), wV_at]
  have g9 : v6.1 200 9 = nI b := by rw [e6, wV_at]
  have gf : ∀ f, f ≠ 8 → f ≠ 9 → v6.1 200 f = v.1 200 f := fun f q1 q2 => by rw [e6, wV_other _ _ _ _ _ q2, wV_other _ _ _ _ _ q1]
  -- the kept lands forgotten
  have l147 : ∀ (c k : Nat) (w : xS), k + c = 3 → (∀ a, a ∉ [200, 210, 211, 212, 213, 214, 227] → w.1 a = v.1 a) → (w.1 200 8 = nI n ∧ w.1 200 9 = nI b ∧ w.1 200 15 = 0 ∧ w.1 200 24 = 0 ∧ w.1 200 0 = v.1 200 0 ∧ w.1 200 2 = v.1 200 2) → (∀ x, x < n → w.1 210 x = v.1 219 x) → (∀ i, i < 3 → w.1 211 i = v.1 220 i ∧ w.1 212 i = v.1 221 i ∧ w.1 213 i = v.1 222 i ∧ w.1 214 i = 0) → (∀ j, j < k → w.1 227 (920 * j) = -9) → aX6_land G (d + 1) 147 [some (.ref 200), some (.int l1), some (.int l2), some (.int (nI k))] [] z w Q := by
    intro c
    induction c with
    | zero =>
      intro k w hk a1 a2 a3 a4 a5
      have : k = 3 := by omega
      subst this
      refine vc_X6_land_147 B (bt (by decide) ?_)
      rw [a2.1]
      exact hq w ⟨a1, a2, a3, a4, a5⟩
    | succ c ih =>
      intro k w hk a1 a2 a3 a4 a5
      refine vc_X6_land_147 B (bf (by rw [i32le, i32_3, nIi (by omega)]; omega) ?_)
      rw [e920, nI_1, clN (by omega)]
      refine ⟨vpN (by omega) (by omega), fun w2 e2 => ?_⟩
      have r2 : ∀ a, a ≠ 227 → w2.1 a = w.1 a := fun a ha => by rw [e2, wV_ne ha]
      refine ih (k + 1) w2 (by omega) (fun a ha => by rw [r2 a (by simp at ha; omega)]; exact a1 a ha) (by rw [r2 200 (by decide)]; exact a2) (fun x hx => by rw [r2 210 (by decide)]; exact a3 x hx) (fun i hi => by rw [r2 211 (by decide), r2 212 (by decide), r2 213 (by decide), r2 214 (by decide)]; exact a4 i hi) (fun j hj => ?_)
      rw [e2]
      by_cases hjk : j = k
      · rw [hjk, wV_at]
      · rw [wV_other _ _ _ _ _ (by omega)]; exact a5 j (by omega)
  have l81 : ∀ (c i : Nat) (w : xS), i + c = 3 → (∀ a, a ∉ [211, 212, 213, 214, 210] → w.1 a = v6.1 a) → (∀ x, x < n → w.1 210 x = v.1 219 x) → (∀ k, k < i → w.1 211 k = v.1 220 k ∧ w.1 212 k = v.1 221 k ∧ w.1 213 k = v.1 222 k ∧ w.1 214 k = 0) → aX6_land G (d + 1) 81 [some (.ref 200), some (.int l1), some (.int l2), some (.int (nI i))] [] z w Q := by
    intro c
    induction c with
    | zero =>
      intro i w hi a1 a3 a4
      have : i = 3 := by omega
      subst this
      refine vc_X6_land_81 B (bt (by decide) (fun v1 e1 v2 e2 => ?_))
      have r2 : ∀ a, a ≠ 200 → v2.1 a = w.1 a := fun a ha => by rw [e2, wV_ne ha, e1, wV_ne ha]
      have s2 : ∀ f, f ≠ 15 → f ≠ 24 → v2.1 200 f = v6.1 200 f := fun f q1 q2 => by rw [e2, wV_other _ _ _ _ _ q2, e1, wV_other _ _ _ _ _ q1, a1 200 (by decide)]
      refine l147 3 0 v2 rfl (fun a ha => ?_) ⟨?_, ?_, ?_, ?_, ?_, ?_⟩ (fun x hx => by rw [r2 210 (by decide)]; exact a3 x hx) (fun i hi => by rw [r2 211 (by decide), r2 212 (by decide), r2 213 (by decide), r2 214 (by decide)]; exact a4 i hi) (fun j hj => absurd hj (Nat.not_lt_zero _))
      · simp at ha
        rw [r2 a (by omega), a1 a (by simp; omega), f6 a (by omega)]
      · rw [s2 8 (by decide) (by decide)]; exact g8
      · rw [s2 9 (by decide) (by decide)]; exact g9
      · rw [e2, wV_other _ _ _ _ _ (by decide), e1, wV_at]
      · rw [e2, wV_at]
      · rw [s2 0 (by decide) (by decide)]; exact gf 0 (by decide) (by decide)
      · rw [s2 2 (by decide) (by decide)]; exact gf 2 (by decide) (by decide)
    | succ c ih =>
      intro i w hi a1 a3 a4
      have vi := vpN (j := i) (n := 3) (by omega) (by omega)
      refine vc_X6_land_81 B (bf (by rw [i32le, i32_3, nIi (by omega)]; omega) ⟨vi, vi, fun v5 e5 => ⟨vi, vi, fun v8 e8 => ⟨vi, vi, fun v11 e11 => ⟨vi, fun v13 e13 => ?_⟩⟩⟩⟩)
      rw [clN (by omega)] at e5 e8 e11 e13
      have r5 : ∀ a, a ≠ 211 → v5.1 a = w.1 a := fun a ha => by rw [e5, wV_ne ha]
      have r8 : ∀ a, a ≠ 212 → v8.1 a = v5.1 a := fun a ha => by rw [e8, wV_ne ha]
      have r11 : ∀ a, a ≠ 213 → v11.1 a = v8.1 a := fun a ha => by rw [e11, wV_ne ha]
      have r13 : ∀ a, a ≠ 214 → v13.1 a = v11.1 a := fun a ha => by rw [e13, wV_ne ha]
      have m0 : v13.1 211 = upd (w.1 211) i (v.1 220 i) := by rw [r13 _ (by decide), r11 _ (by decide), r8 _ (by decide), e5, wV_self, a1 220 (by decide), f6 220 (by decide)]
      have m1 : v13.1 212 = upd (w.1 212) i (v.1 221 i) := by rw [r13 _ (by decide), r11 _ (by decide), e8, wV_self, r5 221 (by decide), r5 212 (by decide), a1 221 (by decide), f6 221 (by decide)]
      have m2 : v13.1 213 = upd (w.1 213) i (v.1 222 i) := by rw [r13 _ (by decide), e11, wV_self, r8 222 (by decide), r8 213 (by decide), r5 222 (by decide), r5 213 (by decide), a1 222 (by decide), f6 222 (by decide)]
      have m3 : v13.1 214 = upd (w.1 214) i 0 := by rw [e13, wV_self, r11 _ (by decide), r8 _ (by decide), r5 _ (by decide)]
      rw [nI_1]
      refine ih (i + 1) v13 (by omega) (fun a ha => ?_) (fun x hx => ?_) (fun k hk => ?_)
      · have ha' := ha
        simp at ha
        rw [r13 a (by omega), r11 a (by omega), r8 a (by omega), r5 a (by omega)]
        exact a1 a ha'
      · rw [r13 _ (by decide), r11 _ (by decide), r8 _ (by decide), r5 _ (by decide)]; exact a3 x hx
      · rw [m0, m1, m2, m3]
        unfold upd
        by_cases hki : k = i
        · simp [hki]
        · simp only [hki, if_false]
          exact a4 k (by omega)
  have l43 : ∀ (c x : Nat) (w : xS), x + c = 10 → (∀ a, a ≠ 210 → w.1 a = v6.1 a) → (∀ y, y < x → y < n → w.1 210 y = v.1 219 y) → aX6_land G (d + 1) 43 [some (.ref 200), some (.int l1), some (.int l2), some (.int (nI x))] [] z w Q := by
    intro c
    induction c with
    | zero =>
      intro x w hx a1 a3
      have : x = 10 := by omega
      subst this
      exact vc_X6_land_43 B (bt (by decide) (l81 3 0 w rfl (fun a ha => a1 a (by simp at ha; omega)) (fun y hy => a3 y (by omega) hy) (fun k hk => absurd hk (Nat.not_lt_zero _))))
    | succ c ih =>
      intro x w hx a1 a3
      have vx := vpN (j := x) (n := 10) (by omega) (by omega)
      refine vc_X6_land_43 B (bf (by rw [i32le, i32_10, nIi (by omega)]; omega) ?_)
      rw [a1 200 (by decide), g8, clN (by omega), nI_1]
      refine ⟨fun q => ⟨vx, fun w2 e2 => ?_⟩, fun q => ⟨vx, vx, fun w2 e2 => ?_⟩⟩
      · rw [i32le, nIi (by omega), nIi (by omega)] at q
        refine ih (x + 1) w2 (by omega) (fun a ha => by rw [e2, wV_ne ha]; exact a1 a ha) (fun y hy hyn => ?_)
        rw [e2, wV_other _ _ _ _ _ (by omega)]; exact a3 y (by omega) hyn
      · rw [a1 219 (by decide), f6 219 (by decide)] at e2
        refine ih (x + 1) w2 (by omega) (fun a ha => by rw [e2, wV_ne ha]; exact a1 a ha) (fun y hy hyn => ?_)
        rw [e2]
        by_cases hyx : y = x
        · rw [hyx, wV_at]
        · rw [wV_other _ _ _ _ _ hyx]; exact a3 y (by omega) hyn
  exact l43 10 0 v6 rfl (fun a _ => rfl) (fun y hy => absurd hy (Nat.not_lt_zero _))
theorem pr_land (B : Base z) (h : InvR z v R) {x : Int32} : oX5_land G (d + 16) [.ref 0, .int x] z v (fun r v1 => oX6_land G (d + 16) [.ref 200, .int x] z v1 (fun r' v2 => Pr z r r' v2)) := by
  have hr := h.1.texts
  refine vc_X5_land B (ok_names B (bS_10 B) (by decide) (fun c => nb1 ?_) (fun c => nb0 (vc_X6_land B (om_askedText B (fun _ => bf (by decide) (Pr.mk rfl h)) (fun r hr e => absurd (by rw [e]; exact inR_nI hr (by omega)) c) (fun r hr e => absurd (by rw [e]; exact inR_nI hr (by omega)) c)))))
  obtain ⟨r, hr6, e, _⟩ := inR_of c
  subst e
  refine ok_holds B (bS_10 B) h.1.W10 hr6 (fun q => nb1 ?_) (fun q => nb0 (ok_find (f := 1) B (by decide) (by decide) ?_))
  · rcases hr.2 r hr6 with ⟨c1, c2⟩ | ⟨n, hn, c1, c2, c3⟩
    · rw [c1, i32_m1] at q; omega
    obtain ⟨t1, t2⟩ := hr.tx hr6 hn c1 c2 c3
    refine ok_read B t1 (fun v1 hS hC => ?_)
    have q1 : QS v v1 := QS.of hS
    -- the reference's way to its reading
    have model : ∀ (w : xS) (Q : Int32 → xS → Prop), TM w r n (v.1 (13 + r)) → (∀ v3, MG w v3 → ((sPar (v.1 (13 + r)) n).1 = -9 → MTT v3 (sPar (v.1 (13 + r)) n).2.1 (sPar (v.1 (13 + r)) n).2.2.2 ∧ ∀ x, x < (sPar (v.1 (13 + r)) n).2.1 → v3.1 219 x = nI ((sPar (v.1 (13 + r)) n).2.2.1 x)) → ((sPar (v.1 (13 + r)) n).1 = -9 → ∀ v5 : xS, v5 = wV v3 200 8 (v3.1 200 17) → ∀ v6 : xS, v6 = wV v5 200 9 (v5.1 200 18) → aX6_land G (d + 16) 43 [some (.ref 200), some (.int (nI r)), some (.int 0), some (.int 0)] [] z v6 Q) ∧ (¬ (sPar (v.1 (13 + r)) n).1 = -9 → Q (-4) v3)) → oX6_land G (d + 16) [.ref 200, .int (nI r)] z w Q := by
      intro w Q hw hgo
      refine vc_X6_land B (om_askedText B (fun q => absurd c q) (fun r' hr' e' q2 => ?_) (fun r' hr' e' q2 => bt (by decide) (om_goesOn B hw (fun v3 hM hT => hgo v3 hM hT))))
      rw [← nIinj (by omega) (by omega) e', hw.2.2.1, nIi (by omega)] at q2; omega
    have hgood := sPar_good (c := v.1 (13 + r)) hn
    generalize sPar (v.1 (13 + r)) n = P at hC hgood model ⊢
    obtain ⟨res, n', H, T⟩ := P
    dsimp only at hC hgood model ⊢
    refine ⟨fun q9 => ?_, fun q9 => ?_⟩
    · obtain ⟨⟨a4, a5, a6⟩, a7⟩ := hC q9
      obtain ⟨b1, b2, b3, b4, b5⟩ := hgood q9
      refine ok_begin B (fun v7 S7 d0 d1 d2 d3 d31 dd => ?_)
      have I1 := h.q q1
      have k7 : ∀ a, a ∉ [30, 31, 32, 33, 34, 35] → v7.1 a = v1.1 a := fun a ha => S7.2 a ha
      have loop : ∀ (c k : Nat) (w : xS), k + c = 3 → Same [101] v7 w → (∀ j, j < k → w.1 101 j = 0) → aX5_land G (d + 16) 63 [some (.ref 0), some (.int (nI r)), some (.int (nI k))] [] z w (fun r0 v1 => oX6_land G (d + 16) [.ref 200, .int (nI r)] z v1 (fun r' v2 => Pr z r0 r' v2)) := by
        intro c
        induction c with
        | zero =>
          intro k w hk Sw h101
          have : k = 3 := by omega
          subst this
          have kw : ∀ a, a ∉ [30, 31, 32, 33, 34, 35, 101] → w.1 a = v1.1 a := fun a ha => by
            simp at ha
            rw [Same1 Sw (by omega), k7 a (by simp; omega)]
          refine vc_X5_land_63 B (bt (by decide) ?_)
          rw [Same1 Sw (by decide), d0, a4]
          have tw : TM w r n (v.1 (13 + r)) := ⟨hr6, hn, by rw [kw 206 (by decide), q1.1 206 (by decide)]; exact c2, fun i hi => by rw [kw 207 (by decide), q1.1 207 (by decide)]; exact t2.2.2.2 i hi⟩
          refine model w _ tw (fun v3 hM hT => ⟨fun _ v5 e5 v6 e6 => ?_, fun q => absurd q9 q⟩)
          obtain ⟨⟨m7, m8, m9⟩, mH⟩ := hT q9
          have s5 : v5.1 200 18 = nI T.1 := by rw [e5, wV_other _ _ _ _ _ (by decide)]; exact m8
          rw [s5, e5, m7] at e6
          refine om_landGo B b2 m7 m8 (fun u hU => ?_) v6 e6
          obtain ⟨u1, u2, u3, u4, u5⟩ := hU
          have k3 : ∀ a, a ∉ [30, 31, 32, 33, 34, 35, 101, 200, 219, 220, 221, 222] → v3.1 a = v1.1 a := fun a ha => by
            simp at ha
            rw [hM.2.1 a (by simp; omega), kw a (by simp; omega)]
          have ku : ∀ a, a ∉ [30, 31, 32, 33, 34, 35, 101, 200, 210, 211, 212, 213, 214, 219, 220, 221, 222, 227] → u.1 a = v1.1 a := fun a ha => by
            simp at ha
            rw [u1 a (by simp; omega), k3 a (by simp; omega)]
          have uw : ∀ a, a < 102 → u.1 a = w.1 a := fun a ha => by rw [u1 a (by simp; omega), hM.2.1 a (by simp; omega)]
          have hb3 := b4
          refine Pr.mk rfl (R := ((n', T.1, 0, T.2.1, T.2.2.1, T.2.2.2), H, 0, fun _ => 0, fun _ => 0, fun _ _ => 0, fun _ _ => 0)) ?_
          obtain ⟨⟨i1, i2, i3, i4, i5, i6, i7⟩, ⟨i8, i9⟩, i10⟩ := I1
          refine ⟨⟨i1, ⟨⟨b2, hb3, ?_, fun i hi => b5 i hi⟩, ?_, Nat.zero_le _, fun k hk => absurd hk (Nat.not_lt_zero _)⟩, ⟨⟨?_, ?_, ?_, ?_⟩, fun i hi => ?_, fun x hx => ?_, fun k hk => absurd hk (Nat.not_lt_zero _)⟩, ⟨⟨u2.1, u2.2.1, u2.2.2.1, u2.2.2.2.1⟩, fun i hi => ?_, fun x hx => ?_, fun k hk => absurd hk (Nat.not_lt_zero _)⟩, fun j hj => Or.inl ⟨?_, u5 j hj⟩, i6.fr (ku 1 (by decide)) (fun k hk => ku _ (by simp; omega)) (ku 203 (by decide)) (ku 204 (by decide)), i7.fr (ku 10 (by decide)) (fun k hk => ku _ (by simp; omega)) (ku 206 (by decide)) (ku 207 (by decide))⟩, ⟨?_, fun f q1 q2 => ?_⟩, ?_⟩
          · exact Nat.one_le_pow _ _ (by decide)
          · have := sm_le9 b3
            dsimp only [rD, dn, rg]
            omega
          · rw [uw 30 (by decide), Same1 Sw (by decide), d0]; exact a4
          · rw [uw 30 (by decide), Same1 Sw (by decide), d1]; exact a5
          · rw [uw 30 (by decide), Same1 Sw (by decide), d2]; rfl
          · rw [uw 30 (by decide), Same1 Sw (by decide), d3]; rfl
          · dsimp only [rD, db] at hi
            have di := dd i (by omega)
            have ai := a6 i hi
            rw [uw _ (by decide), uw _ (by decide), uw _ (by decide), uw _ (by decide), Same1 Sw (by decide), Same1 Sw (by decide), Same1 Sw (by decide), Same1 Sw (by decide), di.1, di.2.1, di.2.2.1, di.2.2.2]
            exact ⟨ai.1, ai.2.1, ai.2.2, rfl⟩
          · dsimp only [rD, dn] at hx
            rw [uw _ (by decide), Same1 Sw (by decide), d31 x (by omega)]; exact a7 x hx
          · dsimp only [rD, db] at hi
            have ui := u4 i (by omega)
            have mi := m9 i hi
            rw [ui.1, ui.2.1, ui.2.2.1, ui.2.2.2]
            exact ⟨mi.1, mi.2.1, mi.2.2, rfl⟩
          · dsimp only [rD, dn] at hx
            rw [u3 x hx]; exact mH x hx
          · rw [uw _ (by decide)]; exact h101 j hj
          · rw [ku 0 (by decide), u2.2.2.2.2.1, hM.2.2 0 (by decide) (by decide) (by decide), kw 200 (by decide)]; exact i8
          · rw [ku 102 (by decide), ku 201 (by decide)]; exact i9 f q1 q2
          · rw [ku 0 (by decide), u2.2.2.2.2.2, hM.2.2 2 (by decide) (by decide) (by decide), kw 200 (by decide)]; exact i10
        | succ c ih =>
          intro k w hk Sw h101
          refine vc_X5_land_63 B (bf (by rw [i32le, i32_3, nIi (by omega)]; omega) ⟨vpN (by omega) (by omega), fun w2 e2 => ?_⟩)
          rw [clN (by omega)] at e2
          subst e2
          rw [nI_1]
          refine ih (k + 1) _ (by omega) (Sw.wV (by simp)) (fun j hj => ?_)
          by_cases hjk : j = k
          · rw [hjk, wV_at]
          · rw [wV_other _ _ _ _ _ hjk]; exact h101 j (by omega)
      exact loop 3 0 v7 rfl (Same.rf _ _) (fun j hj => absurd hj (Nat.not_lt_zero _))
    · exact model v1 _ (t2.qs q1) (fun v3 hM hT => ⟨fun q => absurd q q9, fun _ => Pr.mk rfl (h.q (q1.trans (QS.mg hM)))⟩)
  · have g : (fnd v 1).1 206 = v.1 206 := fnd_ne (by decide) (by decide)
    refine vc_X6_land B (om_askedText B (fun q => absurd c q) (fun r' hr' e' q2 => bf (by decide) (Pr.mk rfl (h.find (by decide) (by decide)).done)) (fun r' hr' e' q2 => ?_))
    rw [g, ← nIinj (by omega) (by omega) e'] at q2
    obtain ⟨n, hn, c1, _⟩ := hr.nonneg (by decide) hr6 q2
    rw [c1] at q
    have := (i32eq _ _).mp q
    rw [nIi (by omega), i32_m1] at this
    omega
end PLAND
