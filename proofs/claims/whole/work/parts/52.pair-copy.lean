/-! pairs: copy -/
def SPn (i c : Int32) (n : Nat) : Prop := 0 ≤ i.toInt ∧ 0 ≤ c.toInt ∧ i.toInt + c.toInt ≤ n
section PCOPY
variable {G : xG} {d : Nat} {z : xZ} {v : xS} {R : xR}
theorem ok_spans {Q : Int32 → xS → Prop} {s p m : Nat} (B : Base z) (hs : xShelf z s p m) (hp : p ≤ 6) {j n : Nat} (hj : j < p) (he : v.1 (s + 2) j = nI n) (hn : n ≤ 80) {i c : Int32} (h1 : SPn i c n → Q 1 v) (h0 : ¬ SPn i c n → Q 0 v) : oX4_spans G (d + 2) [.ref s, .int (nI j), .int i, .int c] z v Q := by
  have en : (nI n).toInt = n := nIi (by omega)
  refine vc_X4_spans B hs (ok_sizeOf B hs hp hj ?_)
  rw [he]
  refine ⟨fun q => h0 (fun w => ?_), fun q => ⟨fun q2 => h0 (fun w => ?_), fun q2 => ⟨fun q3 => h0 (fun w => ?_), fun q3 => ?_⟩⟩⟩
  · rw [i32lt, i32_0] at q; have := w.1; omega
  · rw [i32lt, i32_0] at q2; have := w.2.1; omega
  · rw [i32lt, en] at q3; have := w.1; have := w.2.2; omega
  · rw [i32lt, i32_0] at q q2
    rw [i32lt, en] at q3
    have es : (nI n - c).toInt = n - c.toInt := by rw [i32sub (by rw [en]; omega) (by rw [en]; omega), en]
    refine ⟨fun q4 => h0 (fun w => ?_), fun q4 => h1 ⟨by omega, by omega, ?_⟩⟩
    · rw [i32lt, es] at q4; have := w.2.2; omega
    · rw [i32lt, es] at q4; omega
theorem lgc {i c : Int32} {n : Nat} (hn : n ≤ 80) : (0 < lg_cmp (i.toInt64 + c.toInt64) ((nI n).toInt64)) ↔ (n : Int) < i.toInt + c.toInt := by
  rw [lg_cmp_gt, Int64.lt_iff_toInt_lt, lg_i2l_add, Int32.toInt_toInt64, nIi (by omega)]
theorem lgc2 {i c : Int32} {n : Nat} (hn : n ≤ 80) : (lg_cmp (i.toInt64 + c.toInt64) ((nI n).toInt64) ≤ 0) ↔ i.toInt + c.toInt ≤ (n : Int) := by
  rw [lg_cmp_le, Int64.le_iff_toInt_le, lg_i2l_add, Int32.toInt_toInt64, nIi (by omega)]
theorem pr_copy (B : Base z) (h : InvR z v R) {x y t u c : Int32} : oX5_copy G (d + 16) [.ref 0, .int x, .int y, .int t, .int u, .int c] z v (fun r v1 => oX6_copy G (d + 16) [.ref 200, .int x, .int y, .int t, .int u, .int c] z v1 (fun r' v2 => Pr z r r' v2)) := by
  have hr := h.1.rows
  have W := h.1.W1
  have S := bS_1 B
  by_cases cx : inR x 6
  case neg =>
    exact vc_X5_copy B (ok_names B S (by decide) (fun q => absurd q cx) (fun _ => br0 (vc_X6_copy B (om_isRow B (fun q => absurd q cx) (fun _ => br0 (Pr.mk rfl h))))))
  by_cases ct : inR t 6
  case neg =>
    exact vc_X5_copy B (ok_names B S (by decide) (fun _ => br1 (ok_names B S (by decide) (fun q => absurd q ct) (fun _ => nb0 (vc_X6_copy B (om_isRow B (fun _ => br1 (om_isRow B (fun q => absurd q ct) (fun _ => nb0 (Pr.mk rfl h)))) (fun q => absurd cx q)))))) (fun q => absurd cx q))
  obtain ⟨r, hr6, er, _⟩ := inR_of cx
  obtain ⟨o, ho6, eo, _⟩ := inR_of ct
  subst er eo
  have vr := vpN hr6 (by decide : 6 < 2147483648)
  have vo := vpN ho6 (by decide : 6 < 2147483648)
  -- the reference's way to its tests
  have model : ∀ (w : xS) (Q : Int32 → xS → Prop), w.1 203 = v.1 203 → (0 ≤ c.toInt → (((v.1 203 r).toInt < 0 → Q (-3) (met w 1)) ∧ (0 ≤ (v.1 203 r).toInt → (v.1 203 o).toInt < 0 → Q (-3) (met w 1)) ∧ ∀ n n2, n ≤ 40 → n2 ≤ 40 → v.1 203 r = nI n → v.1 203 o = nI n2 → (¬ (SPn y c n ∧ SPn u c n2) → Q (-3) (met w 2)) ∧ (SPn y c n → SPn u c n2 → aX6_copy G (d + 16) 104 [some (.ref 200), some (.int (nI r)), some (.int y), some (.int (nI o)), some (.int u), some (.int c), some (.int 0)] [] z w Q))) → (c.toInt < 0 → Q (-3) (met w 5)) → oX6_copy G (d + 16) [.ref 200, .int (nI r), .int y, .int (nI o), .int u, .int c] z w Q := by
    intro w Q g3 hge hlt
    refine vc_X6_copy B (om_isRow B (fun _ => br1 (om_isRow B (fun _ => nb1 ⟨fun q => ⟨vr, ?_⟩, fun q => om_meet (f := 5) B (by decide) (hlt ?_)⟩) (fun q => absurd ct q))) (fun q => absurd cx q))
    · rw [i32le, i32_0] at q
      obtain ⟨hA, hB, hC⟩ := hge q
      rw [clN (by omega), clN (by omega), g3]
      refine ⟨fun q1 => om_meet (f := 1) B (by decide) (hA ?_), fun q1 => ⟨vo, fun q2 => ?_, fun q2 => om_meet (f := 1) B (by decide) (hB ?_ ?_)⟩⟩
      · rw [i32lt, i32_0] at q1; exact q1
      · rw [i32lt, i32_0] at q1
        rw [i32le, i32_0] at q2
        obtain ⟨n, hn, a1, a2, a3⟩ := hr.nonneg (by decide) hr6 (by omega)
        obtain ⟨n2, hn2, b1, b2, b3⟩ := hr.nonneg (by decide) ho6 q2
        obtain ⟨hD, hE⟩ := hC n n2 hn hn2 a2 b2
        rw [a2, b2]
        refine ⟨fun q3 => om_meet (f := 2) B (by decide) (hD (fun w => ?_)), fun q3 => ⟨fun q4 => om_meet (f := 2) B (by decide) (hD (fun w => ?_)), fun q4 => ⟨vr, fun q5 => om_meet (f := 2) B (by decide) (hD (fun w => ?_)), fun q5 => ⟨vo, fun q6 => hE ⟨?_, q, ?_⟩ ⟨?_, q, ?_⟩, fun q6 => om_meet (f := 2) B (by decide) (hD (fun w => ?_))⟩⟩⟩⟩
        · rw [i32lt, i32_0] at q3; have := w.1.1; omega
        · rw [i32lt, i32_0] at q4; have := w.2.1; omega
        · rw [lgc (by omega)] at q5; have := w.1.2.2; omega
        · rw [i32lt, i32_0] at q3; omega
        · rw [lgc (by omega)] at q5; omega
        · rw [i32lt, i32_0] at q4; omega
        · rw [lgc2 (by omega)] at q6; omega
        · rw [lgc2 (by omega)] at q6; exact q6 w.2.2.2
      · rw [i32lt, i32_0] at q1; omega
      · rw [i32le, i32_0] at q2; omega
    · rw [i32le, i32_0] at q; omega
  refine vc_X5_copy B (ok_names B S (by decide) (fun _ => br1 (ok_names B S (by decide) (fun _ => nb1 ⟨fun q => ?_, fun q => ?_⟩) (fun q => absurd ct q))) (fun q => absurd cx q))
  · rw [i32le, i32_0] at q
    refine ok_holds B S W hr6 (fun hp => br1 (ok_holds B S W ho6 (fun hp2 => nb1 ?_) (fun hm => nb0 (ok_find (f := 1) B (by decide) (by decide) ?_)))) (fun hm => br0 (ok_find (f := 1) B (by decide) (by decide) ?_))
    · rcases hr.2 r hr6 with ⟨c1, _⟩ | ⟨n, hn, a1, a2, a3⟩
      · rw [c1, i32_m1] at hp; omega
      rcases hr.2 o ho6 with ⟨c1, _⟩ | ⟨n2, hn2, b1, b2, b3⟩
      · rw [c1, i32_m1] at hp2; omega
      have bad : ¬ (SPn y c n ∧ SPn u c n2) → oX5_find G (d + 15) [.ref 0, .int 2] z v (fun r19 v18 => oX6_copy G (d + 16) [.ref 200, .int (nI r), .int y, .int (nI o), .int u, .int c] z v18 (fun r' v2 => Pr z r19 r' v2)) := by
        intro hb
        refine ok_find (f := 2) B (by decide) (by decide) (model _ _ (fnd_ne (by decide) (by decide)) (fun _ => ⟨fun w => ?_, fun _ w => ?_, fun n' n2' hn' hn2' e1 e2 => ⟨fun _ => Pr.mk rfl (h.find (by decide) (by decide)).done, fun s1 s2 => ?_⟩⟩) (fun w => by omega))
        · rw [a2, nIi (by omega)] at w; omega
        · rw [b2, nIi (by omega)] at w; omega
        · rw [a2] at e1
          rw [b2] at e2
          rw [← nIinj (by omega) (by omega) e1] at s1
          rw [← nIinj (by omega) (by omega) e2] at s2
          exact absurd ⟨s1, s2⟩ hb
      refine ok_spans B S (by decide) hr6 a1 (by omega) (fun s1 => br1 (ok_spans B S (by decide) ho6 b1 (by omega) (fun s2 => nb1 ?_) (fun s2 => nb0 (bad (fun w => s2 w.2))))) (fun s1 => br0 (bad (fun w => s1 w.1)))
      obtain ⟨a, ea, ea2, _⟩ := i32nat s1.1
      obtain ⟨b, eb, eb2, _⟩ := i32nat s2.1
      obtain ⟨l, el, el2, _⟩ := i32nat q
      subst ea eb el
      have t1 := s1.2.2
      have t2 := s2.2.2
      rw [nIi (by omega), nIi (by omega)] at t1 t2
      refine vc_X4_transfer B S (ok_spans B S (by decide) hr6 a1 (by omega) (fun _ => br1 (ok_spans B S (by decide) ho6 b1 (by omega) (fun _ => br1 ⟨vr, vo, ?_⟩) (fun w => absurd s2 w))) (fun w => absurd s1 w))
      rw [clN (by omega), clN (by omega), clN (by omega), clN (by omega), clN (by omega)]
      refine ⟨by rw [i32lt, i32_0, nIi (by omega)]; omega, by rw [i32lt, i32_0, nIi (by omega)]; omega, by rw [i32lt, i32_0, nIi (by omega)]; omega, by omega, by omega, fun v1 e1 => ?_⟩
      have k1 : ∀ j, j ≠ 1 + 3 + o → v1.1 j = v.1 j := fun j hj => by rw [e1, wA_row, if_neg hj]
      have k1o : v1.1 (1 + 3 + o) = va_cpy (v.1 (1 + 3 + r)) (v.1 (1 + 3 + o)) a b l := by rw [e1, wA_row, if_pos rfl]
      refine model v1 _ (k1 203 (by omega)) (fun _ => ⟨fun w => ?_, fun _ w => ?_, fun n' n2' hn' hn2' e1 e2 => ⟨fun w => ?_, fun _ _ => ?_⟩⟩) (fun w => by omega)
      · rw [a2, nIi (by omega)] at w; omega
      · rw [b2, nIi (by omega)] at w; omega
      · rw [a2] at e1
        rw [b2] at e2
        rw [← nIinj (by omega) (by omega) e1, ← nIinj (by omega) (by omega) e2] at w
        exact absurd ⟨s1, s2⟩ w
      · have g4 : v1.1 204 = v.1 204 := k1 204 (by omega)
        have back : ∀ (c i : Nat) (w : xS), i + c = l → Same [204, 205] v1 w → (∀ j, j < l → w.1 205 j = v.1 204 (40 * r + (a + j))) → (∀ j, j < i → w.1 204 (40 * o + (b + j)) = v.1 204 (40 * r + (a + j))) → (∀ j, (j < 40 * o + b ∨ 40 * o + b + i ≤ j) → w.1 204 j = v.1 204 j) → aX6_copy G (d + 16) 136 [some (.ref 200), some (.int (nI r)), some (.int (nI a)), some (.int (nI o)), some (.int (nI b)), some (.int (nI l)), some (.int (nI i))] [] z w (fun r' v2 => Pr z 1 r' v2) := by
          intro c
          induction c with
          | zero =>
            intro i w hi hS h5 h4 hx
            have : i = l := by omega
            subst this
            refine vc_X6_copy_136 B (bt (by rw [i32le]; omega) (Pr.mk rfl (h.set1 (fun j hj => ?_) ⟨?_, fun q5 hq5 => ?_⟩)))
            · simp [rowsL] at hj
              rw [hS.2 j (by simp; omega), k1 j (by omega)]
            · rw [hS.2 1 (by decide), k1 1 (by omega)]; exact hr.1
            · rw [hS.2 (1 + 2) (by decide), k1 (1 + 2) (by omega), hS.2 203 (by decide), k1 203 (by omega), hS.2 (1 + 3 + q5) (by simp; omega)]
              rcases hr.2 q5 hq5 with w1 | ⟨m1, w1, w2, w3, w4⟩
              · exact Or.inl w1
              · refine Or.inr ⟨m1, w1, w2, w3, fun k hk => ?_⟩
                by_cases e : q5 = o
                · subst e
                  rw [k1o]
                  by_cases hin : b ≤ k ∧ k < b + i
                  · rw [cpy_in hin.1 hin.2]
                    have := h4 (k - b) (by omega)
                    rw [show b + (k - b) = k by omega] at this
                    rw [this]
                    exact a3 _ (by omega)
                  · rw [cpy_out (by omega), hx _ (by omega)]
                    exact w4 k hk
                · rw [k1 _ (by omega), w4 k hk, hx]
                  omega
          | succ c ih =>
            intro i w hi hS h5 h4 hx
            refine vc_X6_copy_136 B (bf (by rw [i32le, nIi (by omega), nIi (by omega)]; omega) ⟨vpN (by omega) (by omega), ?_⟩)
            rw [nI_add, nI_1, clN (by omega)]
            refine om_setRow B ho6 (by omega) ?_
            rw [h5 i (by omega)]
            refine ih (i + 1) _ (by omega) (hS.wV (by simp)) (fun j hj => by rw [wV_ne (by decide)]; exact h5 j hj) (fun j hj => ?_) (fun j hj => ?_)
            · by_cases hji : j = i
              · rw [hji, wV_at]
              · rw [wV_other _ _ _ _ _ (by omega)]; exact h4 j (by omega)
            · rw [wV_other _ _ _ _ _ (by omega)]; exact hx j (by omega)
        have forth : ∀ (c i : Nat) (w : xS), i + c = l → Same [205] v1 w → (∀ j, j < i → w.1 205 j = v.1 204 (40 * r + (a + j))) → aX6_copy G (d + 16) 104 [some (.ref 200), some (.int (nI r)), some (.int (nI a)), some (.int (nI o)), some (.int (nI b)), some (.int (nI l)), some (.int (nI i))] [] z w (fun r' v2 => Pr z 1 r' v2) := by
          intro c
          induction c with
          | zero =>
            intro i w hi hS h5
            have : i = l := by omega
            subst this
            exact vc_X6_copy_104 B (bt (by rw [i32le]; omega) (back i 0 w (by omega) (hS.mono (by simp)) h5 (fun j hj => absurd hj (Nat.not_lt_zero _)) (fun j _ => by rw [Same1 hS (by decide), g4])))
          | succ c ih =>
            intro i w hi hS h5
            refine vc_X6_copy_104 B (bf (by rw [i32le, nIi (by omega), nIi (by omega)]; omega) ?_)
            rw [nI_add, nI_1]
            refine om_rowAt B hr6 (by omega) ⟨vpN (by omega) (by omega), fun w2 e2 => ?_⟩
            rw [clN (by omega), Same1 hS (by decide), g4] at e2
            subst e2
            refine ih (i + 1) _ (by omega) (hS.wV (by simp)) (fun j hj => ?_)
            by_cases hji : j = i
            · rw [hji, wV_at]
            · rw [wV_other _ _ _ _ _ hji]; exact h5 j (by omega)
        exact forth l 0 v1 (by omega) (Same.rf _ _) (fun j hj => absurd hj (Nat.not_lt_zero _))
    · refine model _ _ (fnd_ne (by decide) (by decide)) (fun _ => ⟨fun _ => Pr.mk rfl (h.find (by decide) (by decide)).done, fun _ _ => Pr.mk rfl (h.find (by decide) (by decide)).done, fun n' n2' hn' hn2' e1 e2 => ?_⟩) (fun w => by omega)
      rcases hr.2 o ho6 with ⟨_, c2⟩ | ⟨n, hn, c1, c2, c3⟩
      · rw [c2] at e2; exact absurd e2.symm (nI_ne9 (by omega))
      · rw [c1] at hm
        have := (i32eq _ _).mp hm
        rw [nIi (by omega), i32_m1] at this; omega
    · refine model _ _ (fnd_ne (by decide) (by decide)) (fun _ => ⟨fun _ => Pr.mk rfl (h.find (by decide) (by decide)).done, fun _ _ => Pr.mk rfl (h.find (by decide) (by decide)).done, fun n' n2' hn' hn2' e1 e2 => ?_⟩) (fun w => by omega)
      rcases hr.2 r hr6 with ⟨_, c2⟩ | ⟨n, hn, c1, c2, c3⟩
      · rw [c2] at e1; exact absurd e1.symm (nI_ne9 (by omega))
      · rw [c1] at hm
        have := (i32eq _ _).mp hm
        rw [nIi (by omega), i32_m1] at this; omega
  · rw [i32le, i32_0] at q
    refine ok_find (f := 5) B (by decide) (by decide) (model _ _ (fnd_ne (by decide) (by decide)) (fun w => by omega) (fun _ => Pr.mk rfl (h.find (by decide) (by decide)).done))
end PCOPY
