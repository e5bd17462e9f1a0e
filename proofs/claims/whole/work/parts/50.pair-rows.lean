/-! pairs: rows and texts -/
theorem fnd_ne {v : xS} {f a : Nat} (h1 : a ≠ 0) (h2 : a ≠ 102) : (fnd v f).1 a = v.1 a := by unfold fnd; rw [wV_ne h2, wV_ne h1]
def rowsL : List Nat := [3, 4, 5, 6, 7, 8, 9, 203, 204, 205]
def textL : List Nat := [12, 13, 14, 15, 16, 206, 207]
theorem I0R.set1 {z : xZ} {v v1 : xS} {R : xR} (h : I0R z v R) (hr : ∀ a, a ∉ rowsL → v1.1 a = v.1 a) (hs : SHL v1 1 6 40 203 204) : I0R z v1 R := by
  obtain ⟨h1, h2, h3, h4, h5, h6, h7⟩ := h
  refine ⟨h1, h2, h3.fr (fun j hj => hr _ (by simp [rowsL]; omega)), h4.fr h2.1 ?_, h5.fr (hr 101 (by decide)) (hr 227 (by decide)) (fun a q1 q2 => hr _ (by simp [rowsL]; omega)), hs, h7.fr (hr 10 (by decide)) (fun j hj => hr _ (by simp [rowsL]; omega)) (hr 206 (by decide)) (hr 207 (by decide))⟩
  rw [MF, hr 200 (by decide)]
  exact ⟨⟨rfl, rfl, rfl, rfl⟩, ⟨fun x _ => by rw [hr 210 (by decide)], fun x _ => by rw [hr 214 (by decide)]⟩, hr 211 (by decide), hr 212 (by decide), hr 213 (by decide), hr 225 (by decide), hr 226 (by decide)⟩
theorem I0R.set10 {z : xZ} {v v1 : xS} {R : xR} (h : I0R z v R) (hr : ∀ a, a ∉ textL → v1.1 a = v.1 a) (hs : SHL v1 10 4 80 206 207) : I0R z v1 R := by
  obtain ⟨h1, h2, h3, h4, h5, h6, h7⟩ := h
  refine ⟨h1, h2, h3.fr (fun j hj => hr _ (by simp [textL]; omega)), h4.fr h2.1 ?_, h5.fr (hr 101 (by decide)) (hr 227 (by decide)) (fun a q1 q2 => hr _ (by simp [textL]; omega)), h6.fr (hr 1 (by decide)) (fun j hj => hr _ (by simp [textL]; omega)) (hr 203 (by decide)) (hr 204 (by decide)), hs⟩
  rw [MF, hr 200 (by decide)]
  exact ⟨⟨rfl, rfl, rfl, rfl⟩, ⟨fun x _ => by rw [hr 210 (by decide)], fun x _ => by rw [hr 214 (by decide)]⟩, hr 211 (by decide), hr 212 (by decide), hr 213 (by decide), hr 225 (by decide), hr 226 (by decide)⟩
theorem Jv.set1 {z : xZ} {v v1 : xS} {R : xR} {x : Int32} (h : Jv z v R x) (hr : ∀ a, a ∉ rowsL → v1.1 a = v.1 a) (hs : SHL v1 1 6 40 203 204) : Jv z v1 R x := by
  obtain ⟨h1, ⟨h2, h3⟩, h4⟩ := h
  refine ⟨h1.set1 hr hs, ⟨?_, fun f q1 q2 => ?_⟩, ?_⟩
  · rw [hr 0 (by decide), hr 200 (by decide)]; exact h2
  · rw [hr 102 (by decide), hr 201 (by decide)]; exact h3 f q1 q2
  · rw [hr 0 (by decide)]; exact h4
theorem Jv.set10 {z : xZ} {v v1 : xS} {R : xR} {x : Int32} (h : Jv z v R x) (hr : ∀ a, a ∉ textL → v1.1 a = v.1 a) (hs : SHL v1 10 4 80 206 207) : Jv z v1 R x := by
  obtain ⟨h1, ⟨h2, h3⟩, h4⟩ := h
  refine ⟨h1.set10 hr hs, ⟨?_, fun f q1 q2 => ?_⟩, ?_⟩
  · rw [hr 0 (by decide), hr 200 (by decide)]; exact h2
  · rw [hr 102 (by decide), hr 201 (by decide)]; exact h3 f q1 q2
  · rw [hr 0 (by decide)]; exact h4
theorem InvR.set1 {z : xZ} {v v1 : xS} {R : xR} (h : InvR z v R) (hr : ∀ a, a ∉ rowsL → v1.1 a = v.1 a) (hs : SHL v1 1 6 40 203 204) : InvR z v1 R := by
  unfold InvR
  rw [hr 200 (by decide)]
  exact Jv.set1 h hr hs
theorem InvR.set10 {z : xZ} {v v1 : xS} {R : xR} (h : InvR z v R) (hr : ∀ a, a ∉ textL → v1.1 a = v.1 a) (hs : SHL v1 10 4 80 206 207) : InvR z v1 R := by
  unfold InvR
  rw [hr 200 (by decide)]
  exact Jv.set10 h hr hs
/-- a row anew on both sides -/
theorem SHL.put {v v2 : xS} {s p m a1 a2 r n : Nat} (h : SHL v s p m a1 a2) (hn : n ≤ m) (h0 : v2.1 s = v.1 s) (h1 : v2.1 (s + 2) = upd (v.1 (s + 2)) r (nI n)) (h2 : v2.1 a1 = upd (v.1 a1) r (nI n)) (h3 : ∀ q, q < p → q ≠ r → v2.1 (s + 3 + q) = v.1 (s + 3 + q)) (h4 : ∀ j, (j < m * r ∨ m * r + m ≤ j) → v2.1 a2 j = v.1 a2 j) (h5 : ∀ k, k < n → v2.1 (s + 3 + r) k = v2.1 a2 (m * r + k)) : SHL v2 s p m a1 a2 := by
  refine ⟨by rw [h0]; exact h.1, fun q hq => ?_⟩
  by_cases e : q = r
  · subst e
    refine Or.inr ⟨n, hn, ?_, ?_, h5⟩
    · rw [h1]; simp [upd]
    · rw [h2]; simp [upd]
  · have u1 : v2.1 (s + 2) q = v.1 (s + 2) q := by rw [h1]; simp [upd, e]
    have u2 : v2.1 a1 q = v.1 a1 q := by rw [h2]; simp [upd, e]
    rw [u1, u2, h3 q hq e]
    rcases h.2 q hq with c | ⟨n', c1, c2, c3, c4⟩
    · exact Or.inl c
    · refine Or.inr ⟨n', c1, c2, c3, fun k hk => ?_⟩
      rw [c4 k hk, h4]
      rcases Nat.lt_or_gt_of_ne e with l | l
      · left
        have := Nat.mul_le_mul_left m l
        rw [Nat.mul_succ] at this
        omega
      · right
        have := Nat.mul_le_mul_left m l
        rw [Nat.mul_succ] at this
        omega
/-- one place of a row anew on both sides -/
theorem SHL.one {v v2 : xS} {s p m a1 a2 r k : Nat} {x : Int32} (h : SHL v s p m a1 a2) (hr : r < p) (hkm : k < m) (h0 : v2.1 s = v.1 s) (h1 : v2.1 (s + 2) = v.1 (s + 2)) (h2 : v2.1 a1 = v.1 a1) (h3 : ∀ q, q < p → q ≠ r → v2.1 (s + 3 + q) = v.1 (s + 3 + q)) (h4 : v2.1 (s + 3 + r) = upd (v.1 (s + 3 + r)) k x) (h5 : v2.1 a2 = upd (v.1 a2) (m * r + k) x) : SHL v2 s p m a1 a2 := by
  refine ⟨by rw [h0]; exact h.1, fun q hq => ?_⟩
  rw [h1, h2, h5]
  rcases h.2 q hq with c | ⟨n', c1, c2, c3, c4⟩
  · exact Or.inl c
  · refine Or.inr ⟨n', c1, c2, c3, fun i hi => ?_⟩
    by_cases e : q = r
    · subst e
      rw [h4]
      unfold upd
      by_cases ei : i = k
      · subst ei; simp
      · rw [if_neg ei, if_neg (by omega)]; exact c4 i hi
    · rw [h3 q hq e, c4 i hi]
      unfold upd
      rw [if_neg]
      intro w
      rcases Nat.lt_or_gt_of_ne e with l | l
      · have := Nat.mul_le_mul_left m l
        rw [Nat.mul_succ] at this
        omega
      · have := Nat.mul_le_mul_left m l
        rw [Nat.mul_succ] at this
        omega
section PROWS
variable {G : xG} {d : Nat} {z : xZ} {v : xS} {R : xR}
theorem ok_opened {Q : Int32 → xS → Prop} {s p m : Nat} (B : Base z) (hs : xShelf z s p m) (W : WS v s p m) {x y fill : Int32} (h0 : ¬ (inR x p ∧ y.toInt ≤ m) → Q (-1) v) (h1 : inR x p → y.toInt < 0 → Q (-3) (fnd v 5)) (h2 : ∀ r n, r < p → n ≤ m → x = nI r → y = nI n → ∀ v1, Same [s + 2, s + 3 + r] v v1 → v1.1 (s + 2) = upd (v.1 (s + 2)) r (nI n) → (∀ k, k < n → v1.1 (s + 3 + r) k = fill) → Q (nI n) v1) : oX5_opened G (d + 3) [.ref 0, .ref s, .int x, .int y, .int fill] z v Q := by
  have hp := W.1
  have em : (v.1 s 0).toInt = m := by rw [W.2.1]; exact nIi (by omega)
  refine vc_X5_opened B hs (ok_names B hs hp.1 (fun hr => br1 ⟨fun c => ⟨fun c2 => ?_, fun c2 => ok_find B (f := 5) (by decide) (by decide) (h1 hr ?_)⟩, fun c => h0 ?_⟩) (fun hr => br0 (h0 (fun q => hr q.1))))
  · rw [i32le, em] at c
    rw [i32le, i32_0] at c2
    obtain ⟨r, hr1, er, _⟩ := inR_of hr
    obtain ⟨n, en, en2, _⟩ := i32nat c2
    subst er en
    rw [nIi (by omega)] at c
    refine ok_open B hs W hr1 (by omega) (fun v1 hS a1 a2 => h2 r n hr1 (by omega) rfl rfl v1 hS a1 a2)
  · rw [i32le, i32_0] at c2; omega
  · rw [i32le, em] at c; intro q; exact c q.2
theorem pr_row (B : Base z) (h : InvR z v R) {x y : Int32} : oX5_row G (d + 16) [.ref 0, .int x, .int y] z v (fun r v1 => oX6_row G (d + 16) [.ref 200, .int x, .int y] z v1 (fun r' v2 => Pr z r r' v2)) := by
  refine vc_X5_row B (ok_opened B (bS_1 B) h.1.W1 (fun c => om_row B (fun _ => Pr.mk rfl h) (fun r hr e hy => absurd ⟨by rw [e]; exact inR_nI hr (by omega), by omega⟩ c) (fun r m hr hm e1 e2 => absurd ⟨by rw [e1]; exact inR_nI hr (by omega), by rw [e2, nIi (by omega)]; omega⟩ c)) (fun c1 c2 => ?_) (fun r n hr hn e1 e2 v1 hS a1 a2 => ?_))
  · exact om_row B (fun q => absurd ⟨c1, by omega⟩ q) (fun r hr e hy => Pr.mk rfl (h.find (f := 5) (by decide) (by decide)).done) (fun r m hr hm e1 e2 => by rw [e2, nIi (by omega)] at c2; omega)
  · refine om_row B (fun q => absurd ⟨by rw [e1]; exact inR_nI hr (by omega), by rw [e2, nIi (by omega)]; omega⟩ q) (fun r hr e hy => by rw [e2, nIi (by omega)] at hy; omega) (fun r' n' hr' hn' e1' e2' v2 hS2 b1 b2 b3 => ?_)
    have er : r' = r := by rw [e1] at e1'; exact (nIinj (by omega) (by omega) e1').symm
    have en : n' = n := by rw [e2] at e2'; exact (nIinj (by omega) (by omega) e2').symm
    subst er en
    have k2 : ∀ a, a ≠ 203 → a ≠ 204 → v2.1 a = v1.1 a := fun a q1 q2 => hS2.2 a (by simp; omega)
    have k1 : ∀ a, a ≠ 1 + 2 → a ≠ 1 + 3 + r' → v1.1 a = v.1 a := fun a q1 q2 => hS.2 a (by simp; omega)
    refine Pr.mk rfl (h.set1 (fun a ha => ?_) ?_)
    · simp [rowsL] at ha
      rw [k2 a (by omega) (by omega), k1 a (by omega) (by omega)]
    · refine h.1.rows.put (r := r') (n := n') hn (by rw [k2 1 (by decide) (by decide), k1 1 (by decide) (by omega)]) (by rw [k2 _ (by decide) (by decide)]; exact a1) (by rw [b1, k1 203 (by decide) (by omega)]) (fun q hq hne => by rw [k2 _ (by omega) (by omega), k1 _ (by omega) (by omega)]) (fun j hj => by rw [b3 j hj, k1 204 (by decide) (by omega)]) (fun k hk => ?_)
      rw [k2 _ (by omega) (by omega), a2 k hk, b2 k (by omega)]
theorem pr_text (B : Base z) (h : InvR z v R) {x y : Int32} : oX5_text G (d + 16) [.ref 0, .int x, .int y] z v (fun r v1 => oX6_text G (d + 16) [.ref 200, .int x, .int y] z v1 (fun r' v2 => Pr z r r' v2)) := by
  have i80 : (80 : Int32).toInt = 80 := by decide
  refine vc_X5_text B (ok_opened B (bS_10 B) h.1.W10 (fun c => ?_) (fun c1 c2 => ?_) (fun r n hr hn e1 e2 v1 hS a1 a2 => ?_))
  · refine vc_X6_text B (om_isText B (fun q => br1 (bf (fun q2 => c ⟨q, ?_⟩) (Pr.mk rfl h))) (fun q => br0 (Pr.mk rfl h)))
    rw [i32le, i80] at q2; exact q2
  · refine vc_X6_text B (om_isText B (fun q => br1 (bt (by rw [i32le, i80]; omega) (bf (by rw [i32le, i32_0]; omega) (om_meet (f := 5) B (by decide) (Pr.mk rfl (h.find (f := 5) (by decide) (by decide)).done))))) (fun q => absurd c1 q))
  · have k1 : ∀ a, a ≠ 10 + 2 → a ≠ 10 + 3 + r → v1.1 a = v.1 a := fun a q1 q2 => hS.2 a (by simp; omega)
    rw [e1, e2]
    refine vc_X6_text B (om_isText B (fun q => br1 (bt (by rw [i32le, i80, nIi (by omega)]; omega) (bt (by rw [i32le, i32_0, nIi (by omega)]; omega) ⟨vpN hr (by omega), fun v4 e4 => ?_⟩))) (fun q => absurd (inR_nI hr (by omega)) q))
    rw [clN (by omega)] at e4
    have loop : ∀ (c k : Nat) (w : xS), k + c = 80 → Same [206, 207] v1 w → w.1 206 = upd (v1.1 206) r (nI n) → (∀ j, j < k → w.1 207 (80 * r + j) = 32) → (∀ j, (j < 80 * r ∨ 80 * r + 80 ≤ j) → w.1 207 j = v1.1 207 j) → aX6_text G (d + 16) 34 [some (.ref 200), some (.int (nI r)), some (.int (nI n)), some (.int (nI k))] [] z w (fun r' v2 => Pr z (nI n) r' v2) := by
      intro c
      induction c with
      | zero =>
        intro k w hk hSw b1 b2 b3
        have : k = 80 := by omega
        subst this
        have k2 : ∀ a, a ≠ 206 → a ≠ 207 → w.1 a = v1.1 a := fun a q1 q2 => hSw.2 a (by simp; omega)
        refine vc_X6_text_34 B (bt (by decide) (Pr.mk rfl (h.set10 (fun a ha => ?_) ?_)))
        · simp [textL] at ha
          rw [k2 a (by omega) (by omega), k1 a (by omega) (by omega)]
        · refine h.1.texts.put (r := r) (n := n) hn (by rw [k2 10 (by decide) (by decide), k1 10 (by decide) (by omega)]) (by rw [k2 _ (by decide) (by decide)]; exact a1) (by rw [b1, k1 206 (by decide) (by omega)]) (fun q hq hne => by rw [k2 _ (by omega) (by omega), k1 _ (by omega) (by omega)]) (fun j hj => by rw [b3 j hj, k1 207 (by decide) (by omega)]) (fun k hk => ?_)
          rw [k2 _ (by omega) (by omega), a2 k hk, b2 k (by omega)]
      | succ c ih =>
        intro k w hk hSw b1 b2 b3
        refine vc_X6_text_34 B (bf (by rw [i32le, i80, nIi (by omega)]; omega) ?_)
        rw [show (80 : Int32) * nI r + nI k = nI (80 * r + k) by rw [show (80 : Int32) = nI 80 from rfl, pk_mul, nI_add]]
        refine ⟨vpN (by omega) (by omega), fun w2 e2 => ?_⟩
        rw [clN (by omega)] at e2
        subst e2
        rw [nI_1]
        refine ih (k + 1) _ (by omega) (hSw.wV (by simp)) (by rw [wV_ne (by decide)]; exact b1) (fun j hj => ?_) (fun j hj => ?_)
        · by_cases hjk : j = k
          · rw [hjk, wV_at]
          · rw [wV_other _ _ _ _ _ (by omega)]; exact b2 j (by omega)
        · rw [wV_other _ _ _ _ _ (by omega)]; exact b3 j hj
    subst e4
    exact loop 80 0 _ rfl ((Same.rf _ _).wV (by simp)) wV_self (fun j h => absurd h (Nat.not_lt_zero _)) (fun j _ => by rw [wV_ne (by decide)])
theorem ok_placeRefusal {Q : Int32 → xS → Prop} {s p m : Nat} (B : Base z) (hs : xShelf z s p m) (W : WS v s p m) {j : Nat} (hj : j < p) {x : Int32} (h1 : v.1 (s + 2) j = -1 → Q (-3) (fnd v 1)) (h2 : 0 ≤ (v.1 (s + 2) j).toInt → ¬ (0 ≤ x.toInt ∧ x.toInt < (v.1 (s + 2) j).toInt) → Q (-3) (fnd v 2)) (h0 : 0 ≤ x.toInt → x.toInt < (v.1 (s + 2) j).toInt → Q 0 v) : oX5_placeRefusal G (d + 3) [.ref 0, .ref s, .int (nI j), .int x] z v Q := by
  refine vc_X5_placeRefusal B hs (ok_holds B hs W hj (fun c => nb1 (ok_reaches B hs W.1.1 hj (fun c1 c2 => br1 (h0 c1 c2)) (fun c1 => br0 (ok_find (f := 2) B (by decide) (by decide) (h2 c c1))))) (fun c => nb0 (ok_find (f := 1) B (by decide) (by decide) (h1 c))))
theorem om_at {Q : Int32 → xS → Prop} (B : Base z) {x y : Int32} (h0 : ¬ inR x 6 → Q (-1) v) (h1 : ∀ r, r < 6 → x = nI r → (v.1 203 r).toInt < 0 → Q (-3) (met v 1)) (h2 : ∀ r n, r < 6 → x = nI r → v.1 203 r = nI n → n ≤ 40 → ¬ (0 ≤ y.toInt ∧ y.toInt < n) → Q (-3) (met v 2)) (h3 : ∀ r n k, r < 6 → x = nI r → y = nI k → v.1 203 r = nI n → n ≤ 40 → k < n → Q 1 (wV v 200 2 (v.1 204 (40 * r + k)))) (hw : ∀ r, r < 6 → (v.1 203 r).toInt ≤ 40) : oX6_at G (d + 5) [.ref 200, .int x, .int y] z v Q := by
  refine vc_X6_at B (om_askedRow B (fun c => bf (by decide) (h0 c)) (fun r hr e c => bf (by decide) (h1 r hr e c)) (fun r hr e c => bt (by decide) ?_))
  have hwr := hw r hr
  obtain ⟨n, en, en2, _⟩ := i32nat c
  subst e
  rw [clN (by omega), en]
  have es : (nI n - 1).toInt = (n : Int) - 1 := by rw [i32sub (by rw [nIi (by omega), i32_1]; omega) (by rw [nIi (by omega), i32_1]; omega), nIi (by omega), i32_1]
  refine ⟨vpN hr (by omega), om_in B (fun a b => br1 ?_) (fun a => br0 (om_meet (f := 2) B (by decide) (h2 r n hr rfl en (by omega) ?_)))⟩
  · rw [i32_0] at a
    rw [es] at b
    obtain ⟨k, ek, ek2, _⟩ := i32nat a
    rw [ek]
    exact om_rowAt B hr (by omega) (om_ask B (h3 r n k hr rfl ek en (by omega) (by omega)))
  · rw [i32_0, es] at a; omega
theorem SHL.hw {v : xS} {s p m a1 a2 : Nat} (h : SHL v s p m a1 a2) (hm : m ≤ 80) : ∀ r, r < p → (v.1 a1 r).toInt ≤ m := by
  intro r hr
  rcases h.2 r hr with ⟨_, q⟩ | ⟨n, hn, _, q, _⟩
  · rw [q, i32_m9]; omega
  · rw [q, nIi (by omega)]; omega
theorem pr_at (B : Base z) (h : InvR z v R) {x y : Int32} : oX5_at G (d + 16) [.ref 0, .int x, .int y] z v (fun r v1 => oX6_at G (d + 16) [.ref 200, .int x, .int y] z v1 (fun r' v2 => Pr z r r' v2)) := by
  have hr := h.1.rows
  have hw := hr.hw (by decide)
  refine vc_X5_at B (ok_names B (bS_1 B) (by decide) (fun c => nb1 ?_) (fun c => nb0 (om_at B (fun _ => Pr.mk rfl h) (fun r hr e => absurd (by rw [e]; exact inR_nI hr (by omega)) c) (fun r n hr e => absurd (by rw [e]; exact inR_nI hr (by omega)) c) (fun r n k hr e => absurd (by rw [e]; exact inR_nI hr (by omega)) c) hw)))
  obtain ⟨r, hr6, e, _⟩ := inR_of c
  subst e
  rcases hr.2 r hr6 with ⟨c1, c2⟩ | ⟨n, hn, c1, c2, c3⟩
  · rw [show 1 + 2 = 3 from rfl] at c1
    refine ok_placeRefusal B (bS_1 B) h.1.W1 hr6 (fun _ => bf (by decide) ?_) (fun q => by rw [show 1 + 2 = 3 from rfl, c1, i32_m1] at q; omega) (fun q q2 => by rw [show 1 + 2 = 3 from rfl, c1, i32_m1] at q2; omega)
    have g : ∀ r, (fnd v 1).1 203 r = v.1 203 r := fun r => by rw [fnd_ne (by decide) (by decide)]
    refine om_at B (fun q => absurd c q) (fun _ _ _ _ => Pr.mk rfl (h.find (by decide) (by decide)).done) (fun r' n' hr' e' q => ?_) (fun r' n' k' hr' e' _ q => ?_) (fun r hr => by rw [g]; exact hw r hr)
    · rw [g, ← nIinj (by omega) (by omega) e', c2] at q; intro q8 _; exact absurd q.symm (nI_ne9 (by omega))
    · rw [g, ← nIinj (by omega) (by omega) e', c2] at q; intro q9; exact absurd q.symm (nI_ne9 (by omega))
  · rw [show 1 + 2 = 3 from rfl] at c1
    refine ok_placeRefusal B (bS_1 B) h.1.W1 hr6 (fun q => ?_) (fun q1 q2 => bf (by decide) ?_) (fun q1 q2 => bt rfl ?_)
    · rw [show 1 + 2 = 3 from rfl, c1] at q
      have := (i32eq _ _).mp q
      rw [nIi (by omega), i32_m1] at this; omega
    · rw [show 1 + 2 = 3 from rfl, c1, nIi (by omega)] at q2
      have g : ∀ r, (fnd v 2).1 203 r = v.1 203 r := fun r => by rw [fnd_ne (by decide) (by decide)]
      refine om_at B (fun q => absurd c q) (fun r' hr' e' q => ?_) (fun _ _ _ _ _ _ _ => Pr.mk rfl (h.find (by decide) (by decide)).done) (fun r' n' k' hr' e' ey q _ q9 => ?_) (fun r hr => by rw [g]; exact hw r hr)
      · rw [g, ← nIinj (by omega) (by omega) e', c2, nIi (by omega)] at q; omega
      · rw [g, ← nIinj (by omega) (by omega) e', c2] at q
        have := nIinj (by omega) (by omega) q
        rw [ey, nIi (by omega)] at q2; omega
    · rw [show 1 + 2 = 3 from rfl, c1, nIi (by omega)] at q2
      obtain ⟨k, ek, ek2, _⟩ := i32nat q1
      subst ek
      refine ok_getN B (bS_1 B) h.1.W1 hr6 c1 (by omega) (by omega) (ok_tell B ?_)
      rw [c3 k (by omega)]
      have g : ∀ y r, (wV v 0 10 y).1 203 r = v.1 203 r := fun y r => by rw [wV_ne (by decide)]
      refine om_at B (fun q => absurd c q) (fun r' hr' e' q => ?_) (fun r' n' hr' e' q _ q9 => ?_) (fun r' n' k' hr' e' ey q _ q9 => ?_) (fun r hr => by rw [g]; exact hw r hr)
      · rw [g, ← nIinj (by omega) (by omega) e', c2, nIi (by omega)] at q; omega
      · rw [g, ← nIinj (by omega) (by omega) e', c2] at q
        have := nIinj (by omega) (by omega) q
        exact absurd ⟨q1, by omega⟩ q9
      · have e1 : r = r' := nIinj (by omega) (by omega) e'
        have e2 : k = k' := nIinj (by omega) (by omega) ey
        rw [← e1, ← e2, wV_ne (by decide)]
        exact Pr.mk rfl (Jv.tell h).done
end PROWS
