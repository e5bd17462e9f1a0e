/-! how a TEXT is read: the reference's part -/
def TM (v : xS) (t m : Nat) (c : Nat → Int32) : Prop := t < 4 ∧ m ≤ 80 ∧ v.1 206 t = nI m ∧ ∀ i, i < m → v.1 207 (80 * t + i) = c i
def MTT (v : xS) (n : Nat) (T : xT) : Prop := v.1 200 17 = nI n ∧ v.1 200 18 = nI T.1 ∧ ∀ i, i < T.1 → v.1 220 i = nI (T.2.1 i) ∧ v.1 221 i = nI (T.2.2.1 i) ∧ v.1 222 i = nI (T.2.2.2 i)
def MG (v v1 : xS) : Prop := v1.2 = v.2 ∧ (∀ a, a ∉ [200, 219, 220, 221, 222] → v1.1 a = v.1 a) ∧ ∀ f, f ≠ 16 → f ≠ 17 → f ≠ 18 → v1.1 200 f = v.1 200 f
theorem MG.rf (v : xS) : MG v v := ⟨rfl, fun _ _ => rfl, fun _ _ _ _ => rfl⟩
theorem MG.trans {v v1 v2 : xS} (h : MG v v1) (h' : MG v1 v2) : MG v v2 := ⟨h'.1.trans h.1, fun a ha => (h'.2.1 a ha).trans (h.2.1 a ha), fun f a b c => (h'.2.2 f a b c).trans (h.2.2 f a b c)⟩
theorem MG.f {v v1 : xS} (h : MG v v1) {f : Nat} {x : Int32} (hf : f = 16 ∨ f = 17 ∨ f = 18) : MG v (wV v1 200 f x) := ⟨h.1, fun a ha => by rw [wV_ne (by intro q; rw [q] at ha; exact ha (by decide))]; exact h.2.1 a ha, fun q a b c => by rw [wV_other _ _ _ _ _ (by omega)]; exact h.2.2 q a b c⟩
theorem MG.a {v v1 : xS} (h : MG v v1) {a k : Nat} {x : Int32} (ha : a = 219 ∨ a = 220 ∨ a = 221 ∨ a = 222) : MG v (wV v1 a k x) := ⟨h.1, fun b hb => by rw [wV_ne (by intro q; apply hb; rw [q]; simp; omega)]; exact h.2.1 b hb, fun q b c e => by rw [wV_ne (by omega)]; exact h.2.2 q b c e⟩
theorem i32_47 : (47 : Int32).toInt = 47 := by decide
theorem i32_49 : (49 : Int32).toInt = 49 := by decide
section MREAD
variable {G : xG} {d : Nat} {z : xZ} {v : xS} {c : Nat → Int32} {t m : Nat}
theorem TM.mg {v1 : xS} (h : TM v t m c) (hs : MG v v1) : TM v1 t m c := ⟨h.1, h.2.1, by rw [hs.2.1 206 (by decide)]; exact h.2.2.1, fun i hi => by rw [hs.2.1 207 (by decide)]; exact h.2.2.2 i hi⟩
theorem om_here {Q : Int32 → xS → Prop} (B : Base z) (hT : TM v t m c) {i : Nat} (hi : v.1 200 16 = nI i) (hi2 : i ≤ 1000) (hq : Q (if i < m then c i else -9) v) : oX6_here G (d + 1) [.ref 200, .int (nI t)] z v Q := by
  obtain ⟨ht, hm, he, hc⟩ := hT
  refine vc_X6_here B ⟨vpN ht (by omega), ?_⟩
  rw [clN (by omega), he, hi]
  refine ⟨fun q => ?_, fun q => ?_⟩
  · rw [i32le, nIi (by omega), nIi (by omega)] at q
    rw [if_neg (by omega)] at hq
    exact hq
  · rw [i32le, nIi (by omega), nIi (by omega)] at q
    rw [if_pos (by omega)] at hq
    rw [show (80 : Int32) * nI t + nI i = nI (80 * t + i) by rw [show (80 : Int32) = nI 80 from rfl, pk_mul, nI_add]]
    refine ⟨vpN (by omega) (by omega), ?_⟩
    rw [clN (by omega), hc i (by omega)]
    exact hq
theorem om_fig {Q : Int32 → xS → Prop} (B : Base z) {i : Nat} (h1 : cFig c m i = true → Q 1 v) (h0 : cFig c m i = false → Q 0 v) : oX6_in G (d + 1) [.int (if i < m then c i else -9), .int 48, .int 57] z v Q := by
  refine om_in B (fun a b => h1 ?_) (fun a => h0 ?_)
  · rw [i32_48] at a
    rw [i32_57] at b
    by_cases hi : i < m
    · rw [if_pos hi] at a b
      exact decide_eq_true ⟨hi, a, b⟩
    · rw [if_neg hi, i32_m9] at a; omega
  · rw [i32_48, i32_57] at a
    refine decide_eq_false (fun q => a ?_)
    rw [if_pos q.1]
    exact q.2
theorem om_readsGround {Q : Int32 → xS → Prop} (B : Base z) (hT : TM v t m c) {i0 : Nat} (hi : v.1 200 16 = nI i0) (hi2 : i0 < m) (hx : c i0 ≠ 103 → Q 0 v)
    (h0 : c i0 = 103 → (sHt c m 10 (i0 + 1) < 2 ∨ cFig c m (i0 + 1 + sHt c m 10 (i0 + 1)) = true) → ∀ v1, MG v v1 → v1.1 200 16 = nI (i0 + 1 + sHt c m 10 (i0 + 1)) → Q 0 v1)
    (h1 : c i0 = 103 → 2 ≤ sHt c m 10 (i0 + 1) → cFig c m (i0 + 1 + sHt c m 10 (i0 + 1)) = false → ∀ v1, MG v v1 → v1.1 200 16 = nI (i0 + 1 + sHt c m 10 (i0 + 1)) → v1.1 200 17 = nI (sHt c m 10 (i0 + 1)) → v1.1 200 18 = v.1 200 18 → (∀ x, x < sHt c m 10 (i0 + 1) → v1.1 219 x = nI (cVal c (i0 + 1 + x))) → Q 1 v1) : oX6_readsGround G (d + 2) [.ref 200, .int (nI t)] z v Q := by
  have hm := hT.2.1
  refine vc_X6_readsGround B (om_here B hT hi (by omega) ?_)
  rw [if_pos hi2]
  refine ⟨fun q v3 e3 => ?_, hx⟩
  rw [hi, nI_1] at e3
  have h0' := h0 q
  have h1' := h1 q
  have hh := sHt_le c m 10 (i0 + 1)
  have loop : ∀ (f n : Nat) (w : xS), n + f = 10 → i0 + 1 + n ≤ m → n + sHt c m f (i0 + 1 + n) = sHt c m 10 (i0 + 1) → MG v w → w.1 200 16 = nI (i0 + 1 + n) → w.1 200 18 = v.1 200 18 → (∀ x, x < n → w.1 219 x = nI (cVal c (i0 + 1 + x))) → aX6_readsGround G (d + 2) 24 [some (.ref 200), some (.int (nI t)), some (.int (nI n))] [] z w Q := by
    intro f
    induction f with
    | zero =>
      intro n w hn hin hs hM h16 h18 hx
      rw [sHt, Nat.add_zero] at hs
      have hTw := hT.mg hM
      rw [← hs] at h0' h1'
      refine vc_X6_readsGround_24 B (bt (by rw [i32le, i32_10, nIi (by omega)]; omega) (bf (by rw [i32lt, i32_2, nIi (by omega)]; omega) (om_here B hTw h16 (by omega) (om_fig B (fun q2 => br1 (h0' (Or.inr q2) w hM h16)) (fun q2 => br0 (fun v5 e5 => ?_))))))
      subst e5
      refine h1' (by omega) q2 _ (hM.f (by simp)) (by rw [wV_other _ _ _ _ _ (by decide)]; exact h16) (wV_at _ _ _ _) (by rw [wV_other _ _ _ _ _ (by decide)]; exact h18) (fun x hxx => by rw [wV_ne (by decide)]; exact hx x hxx)
    | succ f ih =>
      intro n w hn hin hs hM h16 h18 hx
      have hTw := hT.mg hM
      rw [sHt] at hs
      refine vc_X6_readsGround_24 B (bf (by rw [i32le, i32_10, nIi (by omega)]; omega) (om_here B hTw h16 (by omega) (om_fig B (fun q2 => br1 (om_here B hTw h16 (by omega) ⟨vpN (by omega) (by omega), fun v18 e18 v19 e19 => ?_⟩)) (fun q2 => br0 ?_))))
      · have q3 := cVal_le q2
        rw [if_pos q2] at hs
        rw [if_pos q3.2.2, q3.2.1, clN (by omega)] at e18
        have g18 : v18.1 200 = w.1 200 := by rw [e18, wV_ne (by decide)]
        rw [g18, h16, nI_1] at e19
        rw [nI_1]
        refine ih (n + 1) v19 (by omega) (by omega) (by rw [← Nat.add_assoc]; omega) (by rw [e19, e18]; exact (hM.a (by simp)).f (by simp)) (by rw [e19, wV_at]; rfl) (by rw [e19, wV_other _ _ _ _ _ (by decide), g18]; exact h18) (fun x hxx => ?_)
        rw [e19, wV_ne (by decide), e18]
        by_cases hxn : x = n
        · rw [hxn, wV_at]
        · rw [wV_other _ _ _ _ _ hxn]; exact hx x (by omega)
      · rw [if_neg (by rw [q2]; decide), Nat.add_zero] at hs
        rw [← hs] at h0' h1'
        refine ⟨fun q3 => h0' (Or.inl ?_) w hM h16, fun q3 => om_here B hTw h16 (by omega) (om_fig B (fun q4 => by rw [q2] at q4; exact absurd q4 (by decide)) (fun q4 => br0 (fun v14 e14 => ?_)))⟩
        · rw [i32lt, i32_2, nIi (by omega)] at q3; omega
        · rw [i32lt, i32_2, nIi (by omega)] at q3
          subst e14
          refine h1' (by omega) q2 _ (hM.f (by simp)) (by rw [wV_other _ _ _ _ _ (by decide)]; exact h16) (wV_at _ _ _ _) (by rw [wV_other _ _ _ _ _ (by decide)]; exact h18) (fun x hxx => by rw [wV_ne (by decide)]; exact hx x hxx)
  subst e3
  exact loop 10 0 _ rfl (by omega) (by rw [Nat.zero_add]) ((MG.rf v).f (by simp)) (wV_at _ _ _ _) (wV_other _ _ _ _ _ (by decide)) (fun x h => absurd h (Nat.not_lt_zero _))
theorem om_kindOf {Q : Int32 → xS → Prop} (B : Base z) {x : Int32} (h1 : ∀ k, sKd x = some k → Q (nI k) v) (h0 : sKd x = none → Q (-9) v) : oX6_kindOf G (d + 1) [.int x] z v Q := by
  unfold sKd at h1 h0
  refine vc_X6_kindOf B ⟨fun q0 => ⟨fun q1 => ⟨fun q2 => ⟨fun q3 => ⟨fun q4 => ⟨fun q5 => h0 ?_, fun q5 => h1 5 ?_⟩, fun q4 => h1 4 ?_⟩, fun q3 => h1 3 ?_⟩, fun q2 => h1 2 ?_⟩, fun q1 => h1 1 ?_⟩, fun q0 => h1 0 ?_⟩
  · rw [if_neg q0, if_neg q1, if_neg q2, if_neg q3, if_neg q4, if_neg q5]
  · rw [if_neg q0, if_neg q1, if_neg q2, if_neg q3, if_neg q4, if_pos q5]
  · rw [if_neg q0, if_neg q1, if_neg q2, if_neg q3, if_pos q4]
  · rw [if_neg q0, if_neg q1, if_neg q2, if_pos q3]
  · rw [if_neg q0, if_neg q1, if_pos q2]
  · rw [if_neg q0, if_pos q1]
  · rw [if_pos q0]
theorem om_readsBand {Q : Int32 → xS → Prop} (B : Base z) (hT : TM v t m c) {n j : Nat} {T : xT} (hC : MTT v n T) (hn : n ≤ 10) (hn2 : 2 ≤ n) (hT3 : T.1 ≤ 3) (hi : v.1 200 16 = nI j) (hj : j < m) (h1 : ∀ q, sBf c m n T j = some q → ∀ v1, MG v v1 → v1.1 200 16 = nI q → Q 0 v1) (h0 : sBf c m n T j = none → ∀ v1, MG v v1 → v1.1 200 16 = nI (j + 3) → MTT v1 n (sAd c T j) → v1.1 219 = v.1 219 → Q 1 v1) : oX6_readsBand G (d + 2) [.ref 200, .int (nI t)] z v Q := by
  have hm := hT.2.1
  obtain ⟨c7, c8, cc⟩ := hC
  refine vc_X6_readsBand B (om_here B hT hi (by omega) ?_)
  rw [if_pos hj]
  refine om_kindOf B (fun k hk => ?_) (fun hk => bt rfl (h1 j (by unfold sBf; rw [if_pos (Or.inl hk)]) v (MG.rf v) hi))
  have hk6 := sKd_lt hk
  refine bf (nI_ne9 (by omega)) ⟨fun q5 => ?_, fun q5 => h1 j ?_ v (MG.rf v) hi⟩
  · have q5' : T.1 ≠ 3 := fun q => q5 (by rw [c8, q]; rfl)
    have s1 : ¬ (sKd (c j) = none ∨ 3 ≤ T.1) := by rw [hk]; simp; omega
    intro v5 e5
    rw [hi, nI_1] at e5
    have f5 : ∀ f, f ≠ 16 → v5.1 200 f = v.1 200 f := fun f hf => by rw [e5, wV_other _ _ _ _ _ hf]
    have a5 : ∀ a, a ≠ 200 → v5.1 a = v.1 a := fun a ha => by rw [e5, wV_ne ha]
    have M5 : MG v v5 := by rw [e5]; exact (MG.rf v).f (by simp)
    have h16 : v5.1 200 16 = nI (j + 1) := by rw [e5, wV_at]
    have hT5 := hT.mg M5
    have e47 : ((47 : Int32) + v5.1 200 17).toInt = 47 + n := by
      rw [f5 17 (by decide), c7, i32add (by rw [i32_47, nIi (by omega)]; omega) (by rw [i32_47, nIi (by omega)]; omega), i32_47, nIi (by omega)]
    refine om_here B hT5 h16 (by omega) (om_in B (fun a b => nb1 ?_) (fun a => nb0 (h1 (j + 1) ?_ v5 M5 h16)))
    · rw [i32_48] at a
      rw [e47] at b
      have hj1 : j + 1 < m := by
        by_cases q : j + 1 < m
        · exact q
        · rw [if_neg q, i32_m9] at a; omega
      rw [if_pos hj1] at a b
      have f1 : cFig c m (j + 1) = true := decide_eq_true ⟨hj1, a, by omega⟩
      have w1 := cVal_le f1
      have hvn : cVal c (j + 1) < n := by unfold cVal; omega
      have s2 : ¬ (cFig c m (j + 1) = false ∨ n ≤ cVal c (j + 1)) := by rw [f1]; simp; omega
      have hv3 : ∀ w : xS, w.1 200 18 = nI T.1 → vp_in (w.1 200 18) 3 := fun w hw => by rw [hw]; exact vpN (by omega) (by omega)
      have g58 : v5.1 200 18 = nI T.1 := by rw [f5 18 (by decide)]; exact c8
      refine om_here B hT5 h16 (by omega) ⟨hv3 v5 g58, fun v13 e13 v14 e14 => ?_⟩
      rw [if_pos hj1, w1.2.1, g58, clN (by omega)] at e13
      have g13 : v13.1 200 = v5.1 200 := by rw [e13, wV_ne (by decide)]
      rw [g13, h16, nI_1] at e14
      have M14 : MG v v14 := by rw [e14, e13]; exact (M5.a (by simp)).f (by simp)
      have h16' : v14.1 200 16 = nI (j + 2) := by rw [e14, wV_at]
      have f14 : ∀ f, f ≠ 16 → v14.1 200 f = v.1 200 f := fun f hf => by rw [e14, wV_other _ _ _ _ _ hf, g13]; exact f5 f hf
      have hT14 := hT.mg M14
      have g148 : v14.1 200 18 = nI T.1 := by rw [f14 18 (by decide)]; exact c8
      refine om_here B hT14 h16' (by omega) (om_in B (fun a2 b2 => nb1 ?_) (fun a2 => nb0 (h1 (j + 2) ?_ v14 M14 h16')))
      · rw [i32_49] at a2
        rw [i32_57] at b2
        have hj2 : j + 2 < m := by
          by_cases q : j + 2 < m
          · exact q
          · rw [if_neg q, i32_m9] at a2; omega
        rw [if_pos hj2] at a2 b2
        have f2 : cFig c m (j + 2) = true := decide_eq_true ⟨hj2, by omega, by omega⟩
        have w2 := cVal_le f2
        have hv1 : 1 ≤ cVal c (j + 2) := by unfold cVal; omega
        have s3 : ¬ (cFig c m (j + 2) = false ∨ cVal c (j + 2) < 1) := by rw [f2]; simp; omega
        refine om_here B hT14 h16' (by omega) ⟨hv3 v14 g148, fun v22 e22 v23 e23 => ?_⟩
        rw [if_pos hj2, w2.2.1, g148, clN (by omega)] at e22
        have g22 : v22.1 200 = v14.1 200 := by rw [e22, wV_ne (by decide)]
        rw [g22, h16', nI_1] at e23
        have g23 : v23.1 200 18 = nI T.1 := by rw [e23, wV_other _ _ _ _ _ (by decide), g22]; exact g148
        refine ⟨hv3 v23 g23, fun v25 e25 v26 e26 => ?_⟩
        rw [g23, clN (by omega)] at e25
        have g25 : v25.1 200 = v23.1 200 := by rw [e25, wV_ne (by decide)]
        rw [g25, g23, nI_1] at e26
        have M26 : MG v v26 := by rw [e26, e25, e23, e22]; exact (((M14.a (by simp)).f (by simp)).a (by simp)).f (by simp)
        refine h0 (by unfold sBf; rw [if_neg s1, if_neg s2, if_neg s3]) v26 M26 (by rw [e26, wV_other _ _ _ _ _ (by decide), g25, e23, wV_at]) ⟨?_, ?_, fun i hi => ?_⟩ ?_
        · rw [e26, wV_other _ _ _ _ _ (by decide), g25, e23, wV_other _ _ _ _ _ (by decide), g22, f14 17 (by decide)]; exact c7
        · rw [e26, wV_at]; rfl
        · have k220 : v26.1 220 = upd (v.1 220) T.1 (nI k) := by rw [e26, wV_ne (by decide), e25, wV_self, e23, wV_ne (by decide), e22, wV_ne (by decide), e14, wV_ne (by decide), e13, wV_ne (by decide), a5 220 (by decide)]
          have k221 : v26.1 221 = upd (v.1 221) T.1 (nI (cVal c (j + 1))) := by rw [e26, wV_ne (by decide), e25, wV_ne (by decide), e23, wV_ne (by decide), e22, wV_ne (by decide), e14, wV_ne (by decide), e13, wV_self, a5 221 (by decide)]
          have k222 : v26.1 222 = upd (v.1 222) T.1 (nI (cVal c (j + 2))) := by rw [e26, wV_ne (by decide), e25, wV_ne (by decide), e23, wV_ne (by decide), e22, wV_self, e14, wV_ne (by decide), e13, wV_ne (by decide), a5 222 (by decide)]
          rw [k220, k221, k222]
          unfold sAd at hi ⊢
          dsimp only at hi ⊢
          unfold upN upd
          by_cases e : i = T.1
          · simp [e, hk]
          · simp only [e, if_false]
            exact cc i (by omega)
        · rw [e26, wV_ne (by decide), e25, wV_ne (by decide), e23, wV_ne (by decide), e22, wV_ne (by decide), e14, wV_ne (by decide), e13, wV_ne (by decide), a5 219 (by decide)]
      · unfold sBf; rw [if_neg s1, if_neg s2]
        rw [if_pos]
        rw [i32_49, i32_57] at a2
        cases hf : cFig c m (j + 2)
        · exact Or.inl rfl
        · right
          have q := of_decide_eq_true hf
          rw [if_pos q.1] at a2
          unfold cVal; omega
    · unfold sBf; rw [if_neg s1, if_pos]
      rw [i32_48, e47] at a
      cases hf : cFig c m (j + 1)
      · exact Or.inl rfl
      · right
        have q := of_decide_eq_true hf
        rw [if_pos q.1] at a
        unfold cVal; omega
  · rw [c8] at q5
    have : T.1 = 3 := nIinj (b := 3) (by omega) (by omega) q5
    unfold sBf; rw [if_pos (Or.inr (by omega))]
theorem om_goesOn {Q : Int32 → xS → Prop} (B : Base z) (hT : TM v t m c) (hq : ∀ v1, MG v v1 → ((sPar c m).1 = -9 → MTT v1 (sPar c m).2.1 (sPar c m).2.2.2 ∧ ∀ x, x < (sPar c m).2.1 → v1.1 219 x = nI ((sPar c m).2.2.1 x)) → Q (sPar c m).1 v1) : oX6_goesOn G (d + 3) [.ref 200, .int (nI t)] z v Q := by
  have ht := hT.1
  have hm := hT.2.1
  have vt := vpN ht (by decide : 4 < 2147483648)
  have ne9 : ∀ q, q < 1000 → ∀ {X : Prop}, nI q = -9 → X := fun q hq1 X h => absurd h (nI_ne9 (by omega))
  have e206 : ∀ w, MG v w → w.1 206 t = nI m := fun w hw => (hT.mg hw).2.2.1
  -- the bands
  have bands : ∀ (n : Nat) (H : Nat → Nat), 2 ≤ n → n ≤ 10 → ∀ (f : Nat) (T : xT), T.1 ≤ 3 → T.1 + f = 4 → ∀ (k i : Nat) (w : xS), m - i = k → i ≤ m → MG v w → w.1 200 16 = nI i → MTT w n T → (∀ x, x < n → w.1 219 x = nI (H x)) → (∀ v1, MG v v1 → ((sBd c m n f i T).1 = -9 → MTT v1 n (sBd c m n f i T).2 ∧ ∀ x, x < n → v1.1 219 x = nI (H x)) → Q (sBd c m n f i T).1 v1) → aX6_goesOn G (d + 3) 15 [some (.ref 200), some (.int (nI t))] [] z w Q := by
    intro n H hn2 hn f
    induction f with
    | zero => intro T hT3 hTf; omega
    | succ f ihf =>
      intro T hT3 hTf k
      induction k with
      | zero =>
        intro i w hk hi hM h16 hC hH hqq
        have ei : i = m := by omega
        refine vc_X6_goesOn_15 B ⟨vt, ?_⟩
        rw [clN (by omega), e206 w hM, h16]
        refine bt (by rw [i32le, nIi (by omega), nIi (by omega)]; omega) (nt (by rw [hC.1]; exact fun q => by have := nIinj (b := 0) (by omega) (by omega) q; omega) ?_)
        rw [sBd, hk, sBl, if_pos (by omega)] at hqq
        exact hqq w hM (fun _ => ⟨hC, hH⟩)
      | succ k ihk =>
        intro i w hk hi hM h16 hC hH hqq
        have him : i < m := by omega
        have hTw := hT.mg hM
        refine vc_X6_goesOn_15 B ⟨vt, ?_⟩
        rw [clN (by omega), e206 w hM, h16]
        refine bf (by rw [i32le, nIi (by omega), nIi (by omega)]; omega) (om_here B hTw h16 (by omega) ?_)
        rw [if_pos him]
        refine ⟨fun q => nt (by rw [hC.1]; exact fun q => by have := nIinj (b := 0) (by omega) (by omega) q; omega) ?_, fun q v9 e9 => ?_⟩
        · have eb : sBl c m (m - i) i = i := by rw [hk, sBl, if_neg (fun q2 => q q2.2)]
          rw [sBd, eb, if_neg (by omega)] at hqq
          refine om_readsBand B hTw hC hn hn2 hT3 h16 him (fun q2 h2 v1 hM1 h161 => nb0 ?_) (fun h2 v1 hM1 h161 hC1 h219 => nb1 ?_)
          · rw [h2] at hqq
            have hq4 : q2 < 1000 := by
              unfold sBf at h2
              repeat' split at h2
              all_goals first | (injection h2 with h2; omega) | exact absurd h2 (by simp)
            rw [h161]
            exact hqq v1 (hM.trans hM1) (ne9 _ hq4)
          · rw [h2] at hqq
            dsimp only at hqq
            have hb := sBf_none h2
            have hfig := cVal_le hb.2.2.2.2.1
            refine ihf (sAd c T i) (by show T.1 + 1 ≤ 3; omega) (by show T.1 + 1 + f = 4; omega) (m - (i + 3)) (i + 3) v1 rfl (by omega) (hM.trans hM1) h161 hC1 (fun x hx => by rw [h219]; exact hH x hx) hqq
        · rw [h16, nI_1] at e9
          subst e9
          have eb : sBl c m (m - i) i = sBl c m (m - (i + 1)) (i + 1) := by rw [hk, sBl, if_pos ⟨him, q⟩, show m - (i + 1) = k by omega]
          rw [sBd, eb] at hqq
          refine ihk (i + 1) _ (by omega) (by omega) (hM.f (by simp)) (wV_at _ _ _ _) ⟨by rw [wV_other _ _ _ _ _ (by decide)]; exact hC.1, by rw [wV_other _ _ _ _ _ (by decide)]; exact hC.2.1, fun x hx => by rw [wV_ne (by decide), wV_ne (by decide), wV_ne (by decide)]; exact hC.2.2 x hx⟩ (fun x hx => by rw [wV_ne (by decide)]; exact hH x hx) ?_
          rw [sBd]
          exact hqq
  -- the ground
  have ground : ∀ (k i : Nat) (w : xS), m - i = k → i ≤ m → MG v w → w.1 200 16 = nI i → w.1 200 17 = 0 → w.1 200 18 = 0 → (∀ v1, MG v v1 → ((sPar1 c m (sBl c m k i)).1 = -9 → MTT v1 (sPar1 c m (sBl c m k i)).2.1 (sPar1 c m (sBl c m k i)).2.2.2 ∧ ∀ x, x < (sPar1 c m (sBl c m k i)).2.1 → v1.1 219 x = nI ((sPar1 c m (sBl c m k i)).2.2.1 x)) → Q (sPar1 c m (sBl c m k i)).1 v1) → aX6_goesOn G (d + 3) 15 [some (.ref 200), some (.int (nI t))] [] z w Q := by
    intro k
    induction k with
    | zero =>
      intro i w hk hi hM h16 h17 h18 hqq
      have ei : i = m := by omega
      refine vc_X6_goesOn_15 B ⟨vt, ?_⟩
      rw [clN (by omega), e206 w hM, h16]
      refine bt (by rw [i32le, nIi (by omega), nIi (by omega)]; omega) (nf h17 ⟨vt, ?_⟩)
      rw [sBl] at hqq
      unfold sPar1 at hqq
      rw [if_pos (Or.inl (by omega)), ei] at hqq
      exact hqq w hM (ne9 _ (by omega))
    | succ k ihk =>
      intro i w hk hi hM h16 h17 h18 hqq
      have him : i < m := by omega
      have hTw := hT.mg hM
      refine vc_X6_goesOn_15 B ⟨vt, ?_⟩
      rw [clN (by omega), e206 w hM, h16]
      refine bf (by rw [i32le, nIi (by omega), nIi (by omega)]; omega) (om_here B hTw h16 (by omega) ?_)
      rw [if_pos him]
      refine ⟨fun q => nf h17 ?_, fun q v9 e9 => ?_⟩
      · rw [sBl, if_neg (fun q2 => q q2.2)] at hqq
        unfold sPar1 at hqq
        have hh := sHt_le c m 10 (i + 1)
        have hno := sHt_no c m 10 (i + 1)
        have hfg := sHt_fig c m 10 (i + 1)
        refine om_readsGround B hTw h16 him (fun q2 => nb0 ?_) (fun q2 hbad v1 hM1 h161 => nb0 ?_) (fun q2 h2 hfig v1 hM1 h161 h171 h181 h219 => nb1 ?_)
        · rw [if_pos (Or.inr q2)] at hqq
          rw [h16]
          exact hqq w hM (ne9 _ (by omega))
        · rw [if_neg (by rw [q2]; simp; omega)] at hqq
          rw [h161]
          generalize sHt c m 10 (i + 1) = n at hh hno hfg hbad h161 hqq ⊢
          unfold sPar2 at hqq
          by_cases hn2 : n < 2
          · rw [if_pos hn2] at hqq
            exact hqq v1 (hM.trans hM1) (ne9 _ (by omega))
          · rw [if_neg hn2] at hqq
            have hfig : cFig c m (i + 1 + n) = true := by
              rcases hbad with h | h
              · exact absurd h hn2
              · exact h
            have q4 := of_decide_eq_true hfig
            have e1 : sBl c m (m - (i + 1 + n)) (i + 1 + n) = i + 1 + n := by
              obtain ⟨y, hy⟩ : ∃ y, m - (i + 1 + n) = y + 1 := ⟨m - (i + 1 + n) - 1, by omega⟩
              rw [hy, sBl, if_neg]
              intro q5
              have := q4.2.1
              rw [q5.2, show (32 : Int32).toInt = 32 by decide] at this
              omega
            have e2 : sBf c m n xT0 (i + 1 + n) = some (i + 1 + n) := by
              unfold sBf
              rw [if_pos]
              left
              refine sKd_no (fun k hk q5 => ?_)
              have h6 : ∀ k, k < 6 → 97 < ((xSv 0).getD k 0).toInt := by decide
              have := h6 k hk
              rw [q5] at this
              omega
            have e3 : sBd c m n 4 (i + 1 + n) xT0 = (nI (i + 1 + n), xT0) := by
              rw [sBd, e1, if_neg (by omega), e2]
            rw [e3] at hqq
            exact hqq v1 (hM.trans hM1) (ne9 _ (by omega))
        · rw [if_neg (by rw [q2]; simp; omega)] at hqq
          generalize sHt c m 10 (i + 1) = n at hh hno hfg h2 hfig h161 h171 h219 hqq ⊢
          unfold sPar2 at hqq
          rw [if_neg (by omega)] at hqq
          dsimp only at hqq
          refine bands n (fun x => cVal c (i + 1 + x)) h2 hh.1 4 xT0 (by decide) rfl (m - (i + 1 + n)) (i + 1 + n) v1 rfl (by omega) (hM.trans hM1) h161 ⟨h171, by rw [h181, h18]; rfl, fun x hx => absurd hx (Nat.not_lt_zero _)⟩ h219 hqq
      · rw [h16, nI_1] at e9
        subst e9
        rw [sBl, if_pos ⟨him, q⟩] at hqq
        refine ihk (i + 1) _ (by omega) (by omega) (hM.f (by simp)) (wV_at _ _ _ _) (by rw [wV_other _ _ _ _ _ (by decide)]; exact h17) (by rw [wV_other _ _ _ _ _ (by decide)]; exact h18) hqq
  refine vc_X6_goesOn B (fun v1 e1 v2 e2 v3 e3 => ?_)
  unfold sPar at hq
  have M3 : MG v v3 := by rw [e3, e2, e1]; exact (((MG.rf v).f (by simp)).f (by simp)).f (by simp)
  refine ground m 0 v3 (by omega) (Nat.zero_le _) M3 ?_ ?_ ?_ hq
  · rw [e3, wV_other _ _ _ _ _ (by decide), e2, wV_other _ _ _ _ _ (by decide), e1, wV_at]; rfl
  · rw [e3, wV_other _ _ _ _ _ (by decide), e2, wV_at]
  · rw [e3, wV_at]
end MREAD
