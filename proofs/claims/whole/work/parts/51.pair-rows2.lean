/-! pairs: lay, tear, put, copy, mean -/
theorem SHL.nonneg {v : xS} {s p m a1 a2 r : Nat} (h : SHL v s p m a1 a2) (hm : m ≤ 80) (hr : r < p) (c : 0 ≤ (v.1 a1 r).toInt) : ∃ n, n ≤ m ∧ v.1 (s + 2) r = nI n ∧ v.1 a1 r = nI n ∧ ∀ k, k < n → v.1 (s + 3 + r) k = v.1 a2 (m * r + k) := by
  rcases h.2 r hr with ⟨_, q⟩ | q
  · rw [q, i32_m9] at c; omega
  · exact q
theorem wV_comm {v : xS} {a k a' k' : Nat} {x x' : Int32} (h : a ≠ a') : wV (wV v a k x) a' k' x' = wV (wV v a' k' x') a k x := by
  refine Prod.ext (funext fun b => ?_) rfl
  rw [wV_row, wV_row, wV_row, wV_row, wV_row, wV_row]
  by_cases h1 : b = a'
  · subst h1
    rw [if_pos rfl, if_neg (Ne.symm h), if_neg (Ne.symm h), if_pos rfl]
  · rw [if_neg h1, if_neg h1]
    by_cases h2 : b = a
    · rw [if_pos h2, if_pos h2, if_neg h]
    · rw [if_neg h2, if_neg h2]
section PROWS2
variable {G : xG} {d : Nat} {z : xZ} {v : xS} {R : xR}
theorem pr_lay (B : Base z) (h : InvR z v R) {x y w : Int32} : oX5_lay G (d + 16) [.ref 0, .int x, .int y, .int w] z v (fun r v1 => oX6_lay G (d + 16) [.ref 200, .int x, .int y, .int w] z v1 (fun r' v2 => Pr z r r' v2)) := by
  have hr := h.1.rows
  have hw := hr.hw (by decide)
  refine vc_X5_lay B (ok_names B (bS_1 B) (by decide) (fun c => nb1 ?_) (fun c => nb0 (vc_X6_lay B (om_at B (fun _ => bf (by decide) (Pr.mk rfl h)) (fun r hr e => absurd (by rw [e]; exact inR_nI hr (by omega)) c) (fun r n hr e => absurd (by rw [e]; exact inR_nI hr (by omega)) c) (fun r n k hr e => absurd (by rw [e]; exact inR_nI hr (by omega)) c) hw))))
  obtain ⟨r, hr6, e, _⟩ := inR_of c
  subst e
  rcases hr.2 r hr6 with ⟨c1, c2⟩ | ⟨n, hn, c1, c2, c3⟩
  · rw [show 1 + 2 = 3 from rfl] at c1
    refine ok_placeRefusal B (bS_1 B) h.1.W1 hr6 (fun _ => bf (by decide) ?_) (fun q => by rw [show 1 + 2 = 3 from rfl, c1, i32_m1] at q; omega) (fun q q2 => by rw [show 1 + 2 = 3 from rfl, c1, i32_m1] at q2; omega)
    have g : ∀ r, (fnd v 1).1 203 r = v.1 203 r := fun r => by rw [fnd_ne (by decide) (by decide)]
    refine vc_X6_lay B (om_at B (fun q => absurd c q) (fun _ _ _ _ => bf (by decide) (Pr.mk rfl (h.find (by decide) (by decide)).done)) (fun r' n' hr' e' q => ?_) (fun r' n' k' hr' e' _ q => ?_) (fun r hr => by rw [g]; exact hw r hr))
    · rw [g, ← nIinj (by omega) (by omega) e', c2] at q; intro q8 _; exact absurd q.symm (nI_ne9 (by omega))
    · rw [g, ← nIinj (by omega) (by omega) e', c2] at q; intro q9; exact absurd q.symm (nI_ne9 (by omega))
  · rw [show 1 + 2 = 3 from rfl] at c1
    refine ok_placeRefusal B (bS_1 B) h.1.W1 hr6 (fun q => ?_) (fun q1 q2 => bf (by decide) ?_) (fun q1 q2 => bt rfl ?_)
    · rw [show 1 + 2 = 3 from rfl, c1] at q
      have := (i32eq _ _).mp q
      rw [nIi (by omega), i32_m1] at this; omega
    · rw [show 1 + 2 = 3 from rfl, c1, nIi (by omega)] at q2
      have g : ∀ r, (fnd v 2).1 203 r = v.1 203 r := fun r => by rw [fnd_ne (by decide) (by decide)]
      refine vc_X6_lay B (om_at B (fun q => absurd c q) (fun r' hr' e' q => ?_) (fun _ _ _ _ _ _ _ => bf (by decide) (Pr.mk rfl (h.find (by decide) (by decide)).done)) (fun r' n' k' hr' e' ey q _ q9 => ?_) (fun r hr => by rw [g]; exact hw r hr))
      · rw [g, ← nIinj (by omega) (by omega) e', c2, nIi (by omega)] at q; omega
      · rw [g, ← nIinj (by omega) (by omega) e', c2] at q
        have := nIinj (by omega) (by omega) q
        rw [ey, nIi (by omega)] at q2; omega
    · rw [show 1 + 2 = 3 from rfl, c1, nIi (by omega)] at q2
      obtain ⟨k, ek, ek2, _⟩ := i32nat q1
      subst ek
      refine ok_getN B (bS_1 B) h.1.W1 hr6 c1 (by omega) (by omega) (ok_set B (bS_1 B) h.1.W1 hr6 (by rw [show 1 + 2 = 3 from rfl, c1, nIi (by omega)]; omega) (ok_tell B ?_))
      rw [c3 k (by omega)]
      generalize ha : v.1 204 (40 * r + k) = a
      have g : ∀ b, b ≠ 0 → b ≠ 1 + 3 + r → (wV (wV v (1 + 3 + r) k w) 0 10 a).1 b = v.1 b := fun b q3 q4 => by rw [wV_ne q3, wV_ne q4]
      have g3 := g 203 (by decide) (by omega)
      have g4 := g 204 (by decide) (by omega)
      refine vc_X6_lay B (om_at B (fun q => absurd c q) (fun r' hr' e' q => ?_) (fun r' n' hr' e' q _ q9 => ?_) (fun r' n' k' hr' e' ey q _ q9 => bt (by decide) (om_setRow B hr6 (by omega) (Pr.mk rfl (R := R) ?_))) (fun r hr => by rw [g3]; exact hw r hr))
      · rw [g3, ← nIinj (by omega) (by omega) e', c2, nIi (by omega)] at q; omega
      · rw [g3, ← nIinj (by omega) (by omega) e', c2] at q
        have := nIinj (by omega) (by omega) q
        exact absurd ⟨q1, by omega⟩ q9
      · have e1 : r = r' := nIinj (by omega) (by omega) e'
        have e2 : k = k' := nIinj (by omega) (by omega) ey
        rw [← e1, ← e2, g4, ha, wV_comm (v := v) (by omega), wV_comm (v := wV v 0 10 a) (by omega)]
        have hb := (Jv.tell (y := a) h).done
        refine hb.set1 (fun b hb => ?_) (hb.1.rows.one (r := r) (k := k) (x := w) hr6 (by omega) ?_ ?_ ?_ (fun q5 q6 q7 => ?_) ?_ ?_)
        · simp [rowsL] at hb
          rw [wV_ne (by omega), wV_ne (by omega)]
        · rw [wV_ne (by omega), wV_ne (by omega)]
        · rw [wV_ne (by omega), wV_ne (by omega)]
        · rw [wV_ne (by omega), wV_ne (by omega)]
        · rw [wV_ne (by omega), wV_ne (by omega)]
        · rw [wV_ne (by omega), wV_self]
        · rw [wV_self, wV_ne (a := 1 + 3 + r) (by omega)]
theorem pr_tear (B : Base z) (h : InvR z v R) {x : Int32} : oX5_tear G (d + 16) [.ref 0, .int x] z v (fun r v1 => oX6_tear G (d + 16) [.ref 200, .int x] z v1 (fun r' v2 => Pr z r r' v2)) := by
  have hr := h.1.rows
  refine vc_X5_tear B (ok_names B (bS_1 B) (by decide) (fun c => nb1 ?_) (fun c => nb0 (vc_X6_tear B (om_askedRow B (fun _ => bf (by decide) (Pr.mk rfl h)) (fun r hr e => absurd (by rw [e]; exact inR_nI hr (by omega)) c) (fun r hr e => absurd (by rw [e]; exact inR_nI hr (by omega)) c)))))
  obtain ⟨r, hr6, e, _⟩ := inR_of c
  subst e
  refine ok_holds B (bS_1 B) h.1.W1 hr6 (fun q => nb1 (ok_close B (bS_1 B) (by decide) hr6 ?_)) (fun q => nb0 (ok_find (f := 1) B (by decide) (by decide) ?_))
  · have g : (wV v (1 + 2) r (-1)).1 203 = v.1 203 := wV_ne (by decide)
    refine vc_X6_tear B (om_askedRow B (fun q => absurd c q) (fun r' hr' e' q2 => ?_) (fun r' hr' e' q2 => bt (by decide) ⟨vpN hr6 (by omega), fun v4 e4 => Pr.mk rfl (R := R) ?_⟩))
    · rw [g, ← nIinj (by omega) (by omega) e'] at q2
      rcases hr.2 r hr6 with ⟨c1, c2⟩ | ⟨n, hn, c1, c2, c3⟩
      · rw [c1, i32_m1] at q; omega
      · rw [c2, nIi (by omega)] at q2; omega
    · rw [clN (by omega)] at e4
      subst e4
      refine h.set1 (fun b hb => ?_) ⟨?_, fun q5 hq5 => ?_⟩
      · simp [rowsL] at hb
        rw [wV_ne (by omega), wV_ne (by omega)]
      · rw [wV_ne (by decide), wV_ne (by decide)]; exact hr.1
      · have k1 : (wV (wV v (1 + 2) r (-1)) 203 r (-9)).1 (1 + 2) = upd (v.1 (1 + 2)) r (-1) := by rw [wV_ne (by decide), wV_self]
        have k2 : (wV (wV v (1 + 2) r (-1)) 203 r (-9)).1 203 = upd (v.1 203) r (-9) := by rw [wV_self, g]
        have k3 : ∀ b, b ≠ 3 → b ≠ 203 → (wV (wV v (1 + 2) r (-1)) 203 r (-9)).1 b = v.1 b := fun b q1 q2 => by rw [wV_ne q2, wV_ne q1]
        rw [k1, k2, k3 _ (by omega) (by omega), k3 204 (by decide) (by decide)]
        unfold upd
        by_cases e : q5 = r
        · left
          rw [if_pos e, if_pos e]
          exact ⟨rfl, rfl⟩
        · rw [if_neg e, if_neg e]
          exact hr.2 q5 hq5
  · have g : (fnd v 1).1 203 = v.1 203 := fnd_ne (by decide) (by decide)
    refine vc_X6_tear B (om_askedRow B (fun q => absurd c q) (fun r' hr' e' q2 => bf (by decide) (Pr.mk rfl (h.find (by decide) (by decide)).done)) (fun r' hr' e' q2 => ?_))
    rw [g, ← nIinj (by omega) (by omega) e'] at q2
    obtain ⟨n, hn, c1, _⟩ := hr.nonneg (by decide) hr6 q2
    rw [c1] at q
    have := (i32eq _ _).mp q
    rw [nIi (by omega), i32_m1] at this
    omega
theorem e80 (r k : Nat) : (80 : Int32) * nI r + nI k = nI (80 * r + k) := by rw [show (80 : Int32) = nI 80 from rfl, pk_mul, nI_add]
theorem om_put {Q : Int32 → xS → Prop} (B : Base z) {x y w : Int32} (h0 : ¬ inR x 4 → Q (-1) v) (h1 : ∀ r, r < 4 → x = nI r → (v.1 206 r).toInt < 0 → Q (-3) (met v 1)) (h2 : ∀ r n, r < 4 → x = nI r → v.1 206 r = nI n → n ≤ 80 → ¬ (0 ≤ y.toInt ∧ y.toInt < n) → Q (-3) (met v 2)) (h3 : ∀ r n k, r < 4 → x = nI r → y = nI k → v.1 206 r = nI n → n ≤ 80 → k < n → Q (v.1 207 (80 * r + k) + 1000) (wV v 207 (80 * r + k) w.toInt8.toInt32)) (hw : ∀ r, r < 4 → (v.1 206 r).toInt ≤ 80) : oX6_put G (d + 5) [.ref 200, .int x, .int y, .int w] z v Q := by
  refine vc_X6_put B (om_askedText B (fun c => bf (by decide) (h0 c)) (fun r hr e c => bf (by decide) (h1 r hr e c)) (fun r hr e c => bt (by decide) ?_))
  have hwr := hw r hr
  obtain ⟨n, en, en2, _⟩ := i32nat c
  subst e
  rw [clN (by omega), en]
  have es : (nI n - 1).toInt = (n : Int) - 1 := by rw [i32sub (by rw [nIi (by omega), i32_1]; omega) (by rw [nIi (by omega), i32_1]; omega), nIi (by omega), i32_1]
  refine ⟨vpN hr (by omega), om_in B (fun a b => nb1 ?_) (fun a => nb0 (om_meet (f := 2) B (by decide) (h2 r n hr rfl en (by omega) ?_)))⟩
  · rw [i32_0] at a
    rw [es] at b
    obtain ⟨k, ek, ek2, _⟩ := i32nat a
    have vk := vpN (j := 80 * r + k) (n := 320) (by omega) (by omega)
    rw [ek, e80]
    refine ⟨vk, vk, fun v8 e8 => ?_⟩
    rw [clN (by omega)] at e8 ⊢
    subst e8
    exact h3 r n k hr rfl ek en (by omega) (by omega)
  · rw [i32_0, es] at a; omega
theorem pr_put (B : Base z) (h : InvR z v R) {x y w : Int32} : oX5_put G (d + 16) [.ref 0, .int x, .int y, .int w] z v (fun r v1 => oX6_put G (d + 16) [.ref 200, .int x, .int y, .int w] z v1 (fun r' v2 => Pr z r r' v2)) := by
  have hr := h.1.texts
  have hw := hr.hw (by decide)
  refine vc_X5_put B (ok_names B (bS_10 B) (by decide) (fun c => nb1 ?_) (fun c => nb0 (om_put B (fun _ => Pr.mk rfl h) (fun r hr e => absurd (by rw [e]; exact inR_nI hr (by omega)) c) (fun r n hr e => absurd (by rw [e]; exact inR_nI hr (by omega)) c) (fun r n k hr e => absurd (by rw [e]; exact inR_nI hr (by omega)) c) hw)))
  obtain ⟨r, hr6, e, _⟩ := inR_of c
  subst e
  rcases hr.2 r hr6 with ⟨c1, c2⟩ | ⟨n, hn, c1, c2, c3⟩
  · rw [show 10 + 2 = 12 from rfl] at c1
    refine ok_placeRefusal B (bS_10 B) h.1.W10 hr6 (fun _ => bf (by decide) ?_) (fun q => by rw [show 10 + 2 = 12 from rfl, c1, i32_m1] at q; omega) (fun q q2 => by rw [show 10 + 2 = 12 from rfl, c1, i32_m1] at q2; omega)
    have g : ∀ r, (fnd v 1).1 206 r = v.1 206 r := fun r => by rw [fnd_ne (by decide) (by decide)]
    refine om_put B (fun q => absurd c q) (fun _ _ _ _ => Pr.mk rfl (h.find (by decide) (by decide)).done) (fun r' n' hr' e' q => ?_) (fun r' n' k' hr' e' _ q => ?_) (fun r hr => by rw [g]; exact hw r hr)
    · rw [g, ← nIinj (by omega) (by omega) e', c2] at q; intro q8 _; exact absurd q.symm (nI_ne9 (by omega))
    · rw [g, ← nIinj (by omega) (by omega) e', c2] at q; intro q9; exact absurd q.symm (nI_ne9 (by omega))
  · rw [show 10 + 2 = 12 from rfl] at c1
    refine ok_placeRefusal B (bS_10 B) h.1.W10 hr6 (fun q => ?_) (fun q1 q2 => bf (by decide) ?_) (fun q1 q2 => bt rfl ?_)
    · rw [show 10 + 2 = 12 from rfl, c1] at q
      have := (i32eq _ _).mp q
      rw [nIi (by omega), i32_m1] at this; omega
    · rw [show 10 + 2 = 12 from rfl, c1, nIi (by omega)] at q2
      have g : ∀ r, (fnd v 2).1 206 r = v.1 206 r := fun r => by rw [fnd_ne (by decide) (by decide)]
      refine om_put B (fun q => absurd c q) (fun r' hr' e' q => ?_) (fun _ _ _ _ _ _ _ => Pr.mk rfl (h.find (by decide) (by decide)).done) (fun r' n' k' hr' e' ey q _ q9 => ?_) (fun r hr => by rw [g]; exact hw r hr)
      · rw [g, ← nIinj (by omega) (by omega) e', c2, nIi (by omega)] at q; omega
      · rw [g, ← nIinj (by omega) (by omega) e', c2] at q
        have := nIinj (by omega) (by omega) q
        rw [ey, nIi (by omega)] at q2; omega
    · rw [show 10 + 2 = 12 from rfl, c1, nIi (by omega)] at q2
      obtain ⟨k, ek, ek2, _⟩ := i32nat q1
      subst ek
      refine ok_getN B (bS_10 B) h.1.W10 hr6 c1 (by omega) (by omega) (ok_set B (bS_10 B) h.1.W10 hr6 (by rw [show 10 + 2 = 12 from rfl, c1, nIi (by omega)]; omega) ?_)
      rw [c3 k (by omega)]
      have g : ∀ b, b ≠ 10 + 3 + r → (wV v (10 + 3 + r) k w.toInt8.toInt32).1 b = v.1 b := fun b q4 => by rw [wV_ne q4]
      have g3 := g 206 (by omega)
      have g4 := g 207 (by omega)
      refine om_put B (fun q => absurd c q) (fun r' hr' e' q => ?_) (fun r' n' hr' e' q _ q9 => ?_) (fun r' n' k' hr' e' ey q _ q9 => ?_) (fun r hr => by rw [g3]; exact hw r hr)
      · rw [g3, ← nIinj (by omega) (by omega) e', c2, nIi (by omega)] at q; omega
      · rw [g3, ← nIinj (by omega) (by omega) e', c2] at q
        have := nIinj (by omega) (by omega) q
        exact absurd ⟨q1, by omega⟩ q9
      · have e1 : r = r' := nIinj (by omega) (by omega) e'
        have e2 : k = k' := nIinj (by omega) (by omega) ey
        rw [← e1, ← e2, g4]
        refine Pr.mk rfl (h.set10 (fun b hb => ?_) (hr.one (r := r) (k := k) (x := w.toInt8.toInt32) hr6 (by omega) ?_ ?_ ?_ (fun q5 q6 q7 => ?_) ?_ ?_))
        · simp [textL] at hb
          rw [wV_ne (by omega), wV_ne (by omega)]
        · rw [wV_ne (by omega), wV_ne (by omega)]
        · rw [wV_ne (by omega), wV_ne (by omega)]
        · rw [wV_ne (by omega), wV_ne (by omega)]
        · rw [wV_ne (by omega), wV_ne (by omega)]
        · rw [wV_ne (by omega), wV_self]
        · rw [wV_self, wV_ne (a := 10 + 3 + r) (by omega)]
/-- sums of a row -/
def sSum (c : Nat → Int32) : Nat → Int64
  | 0 => 0
  | n + 1 => sSum c n + (c n).toInt64
theorem sSum_congr {c c' : Nat → Int32} : ∀ {n : Nat}, (∀ k, k < n → c k = c' k) → sSum c n = sSum c' n
  | 0, _ => rfl
  | n + 1, h => by rw [sSum, sSum, sSum_congr (fun k hk => h k (by omega)), h n (by omega)]
theorem ok_sumOf {Q : Int64 → xS → Prop} {s p m : Nat} (B : Base z) (hs : xShelf z s p m) (hp : p ≤ 6) (hm : m ≤ 80) {j n : Nat} (hj : j < p) (he : v.1 (s + 2) j = nI n) (hn : n ≤ m) (hq : Q (sSum (v.1 (s + 3 + j)) n) v) : oX4_sumOf G (d + 2) [.ref s, .int (nI j)] z v Q := by
  have loop : ∀ (c k : Nat), k + c = n → aX4_sumOf G (d + 2) 12 [some (.ref s), some (.int (nI j)), some (.long (sSum (v.1 (s + 3 + j)) k)), none, some (.int (nI n)), some (.int (nI k))] [] z v Q := by
    intro c
    induction c with
    | zero =>
      intro k hk
      have : k = n := by omega
      subst this
      exact vc_X4_sumOf_12 B hs (bt (by rw [i32le]; omega) hq)
    | succ c ih =>
      intro k hk
      refine vc_X4_sumOf_12 B hs (bf (by rw [i32le, nIi (by omega), nIi (by omega)]; omega) ⟨vpN hj (by omega), vpN (by omega) (by omega), ?_⟩)
      rw [clN (by omega), clN (by omega), nI_1]
      exact ih (k + 1) (by omega)
  refine vc_X4_sumOf B hs (ok_sizeOf B hs hp hj ?_)
  rw [he]
  exact loop n 0 (by omega)
theorem i64n0 : ∀ n, n ≤ 80 → 0 < n → (nI n).toInt64 ≠ 0 := by decide +kernel
theorem pr_mean (B : Base z) (h : InvR z v R) {x : Int32} : oX5_mean G (d + 16) [.ref 0, .int x] z v (fun r v1 => oX6_mean G (d + 16) [.ref 200, .int x] z v1 (fun r' v2 => Pr z r r' v2)) := by
  have hr := h.1.rows
  refine vc_X5_mean B (ok_names B (bS_1 B) (by decide) (fun c => nb1 ?_) (fun c => nb0 (vc_X6_mean B (om_askedRow B (fun _ => bf (by decide) (Pr.mk rfl h)) (fun r hr e => absurd (by rw [e]; exact inR_nI hr (by omega)) c) (fun r hr e => absurd (by rw [e]; exact inR_nI hr (by omega)) c)))))
  obtain ⟨r, hr6, e, _⟩ := inR_of c
  subst e
  refine ok_holds B (bS_1 B) h.1.W1 hr6 (fun q => nb1 (ok_sizeOf B (bS_1 B) (by decide) hr6 ?_)) (fun q => nb0 (ok_find (f := 1) B (by decide) (by decide) ?_))
  · rcases hr.2 r hr6 with ⟨c1, c2⟩ | ⟨n, hn, c1, c2, c3⟩
    · rw [c1, i32_m1] at q; omega
    rw [c1]
    have msum : ∀ (w : xS) (Q : Int32 → xS → Prop), w.1 203 = v.1 203 → w.1 204 = v.1 204 → (n = 0 → Q (-3) (met w 4)) → (0 < n → Q 1 (wV w 200 2 ((sSum (v.1 (1 + 3 + r)) n / (nI n).toInt64).toInt32))) → oX6_mean G (d + 16) [.ref 200, .int (nI r)] z w Q := by
      intro w Q g3 g4 q0 q1
      refine vc_X6_mean B (om_askedRow B (fun q => absurd c q) (fun r' hr' e' q2 => ?_) (fun r' hr' e' q2 => bt (by decide) ?_))
      · rw [g3, ← nIinj (by omega) (by omega) e', c2, nIi (by omega)] at q2; omega
      have vr := vpN hr6 (by decide : 6 < 2147483648)
      have loop : ∀ (c k : Nat), k + c = n → aX6_mean G (d + 16) 17 [some (.ref 200), some (.int (nI r)), some (.int 0), some (.long (sSum (v.1 (1 + 3 + r)) k)), none, some (.int (nI k))] [] z w Q := by
        intro c
        induction c with
        | zero =>
          intro k hk
          have : k = n := by omega
          subst this
          refine vc_X6_mean_17 B ⟨vr, ?_⟩
          rw [clN (by omega), g3, c2]
          refine bt (by rw [i32le]; omega) ⟨vr, fun q3 => ⟨vr, i64n0 k (by omega) (by have : k ≠ 0 := fun q4 => q3 (by rw [q4]; rfl); omega), om_ask B (q1 ?_)⟩, fun q3 => om_meet (f := 4) B (by decide) (q0 (nIinj (b := 0) (by omega) (by omega) q3))⟩
          have : k ≠ 0 := fun q4 => q3 (by rw [q4]; rfl)
          omega
        | succ c ih =>
          intro k hk
          refine vc_X6_mean_17 B ⟨vr, ?_⟩
          rw [clN (by omega), g3, c2]
          refine bf (by rw [i32le, nIi (by omega), nIi (by omega)]; omega) (om_rowAt B hr6 (by omega) ?_)
          rw [g4, ← c3 k (by omega), nI_1]
          exact ih (k + 1) (by omega)
      exact loop n 0 (by omega)
    refine ⟨fun q2 => ?_, fun q2 => ?_⟩
    · rw [i32lt, i32_0, nIi (by omega)] at q2
      refine ok_sumOf B (bS_1 B) (by decide) (by decide) hr6 c1 hn ⟨i64n0 n (by omega) (by omega), ok_tell B ?_⟩
      exact msum _ _ (wV_ne (by decide)) (wV_ne (by decide)) (fun q3 => by omega) (fun _ => Pr.mk rfl (Jv.tell h).done)
    · rw [i32lt, i32_0, nIi (by omega)] at q2
      refine ok_find (f := 4) B (by decide) (by decide) ?_
      exact msum _ _ (fnd_ne (by decide) (by decide)) (fnd_ne (by decide) (by decide)) (fun _ => Pr.mk rfl (h.find (by decide) (by decide)).done) (fun q3 => by omega)
  · have g : (fnd v 1).1 203 = v.1 203 := fnd_ne (by decide) (by decide)
    refine vc_X6_mean B (om_askedRow B (fun q => absurd c q) (fun r' hr' e' q2 => bf (by decide) (Pr.mk rfl (h.find (by decide) (by decide)).done)) (fun r' hr' e' q2 => ?_))
    rw [g, ← nIinj (by omega) (by omega) e'] at q2
    obtain ⟨n, hn, c1, _⟩ := hr.nonneg (by decide) hr6 q2
    rw [c1] at q
    have := (i32eq _ _).mp q
    rw [nIi (by omega), i32_m1] at this
    omega
end PROWS2
