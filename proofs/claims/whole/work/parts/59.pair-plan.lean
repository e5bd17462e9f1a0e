/-! pairs: flat, raise -/
/-- two searches, from a thousand and from much -/
def Rel (s s' : Nat × List Nat) : Prop := (s' = s ∧ s.1 < 1000) ∨ (s = (1000, []) ∧ s' = (1048576, []))
theorem sIt_rel {f : Nat → Nat × List Nat → Nat × List Nat} (hf : ∀ p s s', Rel s s' → Rel (f p s) (f p s')) : ∀ (n : Nat) (s s' : Nat × List Nat), Rel s s' → Rel (sIt f n s) (sIt f n s')
  | 0, s, s', h => h
  | n + 1, s, s', h => by rw [sIt, sIt]; exact hf n _ _ (sIt_rel hf n s s' h)
theorem sPl_rel {D : xD} {Gl : (Nat → Nat) → Bool} (hD : DB D) : ∀ (m : Nat) (g : Nat → Nat) (br : Nat) (pre : List Nat) (s s' : Nat × List Nat), br + 27 * m < 1000 → Rel s s' → Rel (sPl D Gl m g br pre s) (sPl D Gl m g br pre s')
  | 0, g, br, pre, s, s', hb, h => by
    unfold sPl
    rcases h with ⟨rfl, h⟩ | ⟨rfl, rfl⟩
    · split
      · exact Or.inl ⟨rfl, by dsimp only; omega⟩
      · exact Or.inl ⟨rfl, h⟩
    · by_cases hg : Gl g = true
      · rw [if_pos ⟨hg, by dsimp only; omega⟩, if_pos ⟨hg, by dsimp only; omega⟩]
        exact Or.inl ⟨rfl, by dsimp only; omega⟩
      · rw [if_neg (fun q => hg q.1), if_neg (fun q => hg q.1)]
        exact Or.inr ⟨rfl, rfl⟩
  | m + 1, g, br, pre, s, s', hb, h => by
    rw [sPl, sPl]
    refine sIt_rel (fun p t t' ht => ?_) _ s s' h
    have := eB_le hD p
    exact sPl_rel hD m _ _ _ t t' (by omega) ht
theorem I0R.set1q {z : xZ} {v v1 : xS} {R : xR} (h : I0R z v R) (hr : ∀ a, a ∉ scr → a ∉ rowsL → v1.1 a = v.1 a) (hf : v1.1 200 8 = v.1 200 8 ∧ v1.1 200 9 = v.1 200 9 ∧ v1.1 200 15 = v.1 200 15 ∧ v1.1 200 24 = v.1 200 24) (hb : Back v v1) (hs : SHL v1 1 6 40 203 204) : I0R z v1 R := by
  obtain ⟨h1, h2, h3, h4, h5, h6, h7⟩ := h
  refine ⟨h1, h2, h3.fr (fun j hj => hr _ (by simp [scr]; omega) (by simp [rowsL]; omega)), h4.fr h2.1 ⟨hf, hb, hr 211 (by decide) (by decide), hr 212 (by decide) (by decide), hr 213 (by decide) (by decide), hr 225 (by decide) (by decide), hr 226 (by decide) (by decide)⟩, h5.fr (hr 101 (by decide) (by decide)) (hr 227 (by decide) (by decide)) (fun a q1 q2 => hr _ (by simp [scr]; omega) (by simp [rowsL]; omega)), hs, h7.fr (hr 10 (by decide) (by decide)) (fun j hj => hr _ (by simp [scr]; omega) (by simp [rowsL]; omega)) (hr 206 (by decide) (by decide)) (hr 207 (by decide) (by decide))⟩
theorem Jv.set1q {z : xZ} {v v1 : xS} {R : xR} {x : Int32} (h : Jv z v R x) (hr : ∀ a, a ∉ scr → a ∉ rowsL → v1.1 a = v.1 a) (hf : v1.1 200 0 = v.1 200 0 ∧ v1.1 200 8 = v.1 200 8 ∧ v1.1 200 9 = v.1 200 9 ∧ v1.1 200 15 = v.1 200 15 ∧ v1.1 200 24 = v.1 200 24) (hb : Back v v1) (hs : SHL v1 1 6 40 203 204) : Jv z v1 R x := by
  obtain ⟨h1, ⟨h2, h3⟩, h4⟩ := h
  refine ⟨h1.set1q hr hf.2 hb hs, ⟨?_, fun f q1 q2 => ?_⟩, ?_⟩
  · rw [hr 0 (by decide) (by decide), hf.1]; exact h2
  · rw [hr 102 (by decide) (by decide), hr 201 (by decide) (by decide)]; exact h3 f q1 q2
  · rw [hr 0 (by decide) (by decide)]; exact h4
theorem InvR.set1q {z : xZ} {v v1 : xS} {R : xR} (h : InvR z v R) (hr : ∀ a, a ∉ scr → a ∉ rowsL → v1.1 a = v.1 a) (hf : v1.1 200 0 = v.1 200 0 ∧ v1.1 200 8 = v.1 200 8 ∧ v1.1 200 9 = v.1 200 9 ∧ v1.1 200 15 = v.1 200 15 ∧ v1.1 200 24 = v.1 200 24) (h2 : v1.1 200 2 = v.1 200 2) (hb : Back v v1) (hs : SHL v1 1 6 40 203 204) : InvR z v1 R := by
  unfold InvR
  rw [h2]
  exact Jv.set1q h hr hf hb hs
section PPLAN
variable {G : xG} {d : Nat} {z : xZ} {v : xS} {R : xR}
theorem ok_layPlan {Q : xS → Prop} (B : Base z) (W : WS v 1 6 40) {r n : Nat} (hr : r < 6) (hn : n ≤ 3) (hq : ∀ v1, Same [1 + 2, 1 + 3 + r] v v1 → v1.1 (1 + 2) = upd (v.1 (1 + 2)) r (nI n) → (∀ k, k < n → v1.1 (1 + 3 + r) k = v.1 99 k) → Q v1) : oX5_layPlan G (d + 4) [.ref 0, .int (nI r), .int (nI n)] z v Q := by
  have S := bS_1 B
  refine vc_X5_layPlan B (ok_open B S W hr (by omega) (fun v3 hS3 a1 a2 => ?_))
  have loop : ∀ (c i : Nat) (w : xS), i + c = n → Same [1 + 2, 1 + 3 + r] v w → w.1 (1 + 2) = upd (v.1 (1 + 2)) r (nI n) → (∀ k, k < i → w.1 (1 + 3 + r) k = v.1 99 k) → aX5_layPlan G (d + 4) 12 [some (.ref 0), some (.int (nI r)), some (.int (nI n)), some (.int (nI i))] [] z w Q := by
    intro c
    induction c with
    | zero =>
      intro i w hi hSw b1 b2
      have : i = n := by omega
      subst this
      exact vc_X5_layPlan_12 B (bt (by rw [i32le]; omega) (hq w hSw b1 b2))
    | succ c ih =>
      intro i w hi hSw b1 b2
      have Ww : WS w 1 6 40 := WS.upd1 W (r := r) (n := n) (by omega) (hSw.2 1 (by simp; omega)) b1
      have sw : w.1 (1 + 2) r = nI n := by rw [b1]; simp [upd]
      refine vc_X5_layPlan_12 B (bf (by rw [i32le, nIi (by omega), nIi (by omega)]; omega) (bf (by rw [i32le, i32_3, nIi (by omega)]; omega) ⟨vpN (by omega) (by omega), ok_set B S Ww hr (by rw [sw, nIi (by omega)]; omega) ?_⟩))
      rw [clN (by omega), hSw.2 99 (by simp; omega), nI_1]
      refine ih (i + 1) _ (by omega) (hSw.wV (by simp)) (by rw [wV_ne (by omega)]; exact b1) (fun k hk => ?_)
      by_cases hki : k = i
      · rw [hki, wV_at]
      · rw [wV_other _ _ _ _ _ hki]; exact b2 k (by omega)
  exact loop n 0 v3 (by omega) hS3 a1 (fun k hk => absurd hk (Nat.not_lt_zero _))
/-- the reference's search for n evenings, against the class's -/
theorem om_search {Q : xS → Prop} {Gl : (Nat → Nat) → Bool} {K : xS → Prop} {g : Nat → Nat} {D : xD} (B : Base z) (hD : DB D) {N : Nat} (hN : N ≤ 3)
    (hK : ∀ v v1 : xS, K v → (∀ f, f ≠ 33 → v1.1 200 f = v.1 200 f) → K v1)
    (hW : ∀ (d : Nat) (v : xS) (g : Nat → Nat) (Q : Int32 → xS → Prop), K v → LM v D → Gd v 210 D g → sm g (dn D) ≤ 90 → (Gl g = true → Q 1 v) → (Gl g = false → Q 0 v) → oX6_isGoal G (d + 2) [.ref 200] z v Q)
    (hL : LM v D) (hKv : K v) (hG : Gd v 210 D g) (hs : sm g (dn D) ≤ 90) (h33 : v.1 200 33 = 1048576)
    (h0 : (sPl D Gl N g 0 [] (1000, [])).1 = 1000 → ∀ v1, MPx 33 0 v v1 → Back v v1 → K v1 → v1.1 200 33 = 1048576 → Q v1)
    (h1 : (sPl D Gl N g 0 [] (1000, [])).1 < 1000 → ∀ v1, MPx 33 0 v v1 → Back v v1 → K v1 → BSM v1 (sPl D Gl N g 0 [] (1000, [])) → Q v1) : oX6_playOn G (d + 15) [.ref 200, .int 0, .int (nI N), .int 0] z v Q := by
  have e1 : d + 15 = (d + (7 - N)) + N + 8 := by omega
  rw [e1]
  refine om_playOn (K := K) B hD hN hK hW N 0 v g 0 [] (1048576, []) _ (by omega) hL hKv hG hs rfl (fun j hj => absurd hj (Nat.not_lt_zero _)) ⟨h33, fun j hj => absurd hj (Nat.not_lt_zero _)⟩ (Nat.le_refl _) (Nat.zero_le _) (fun v1 hM hB hS => ?_)
  have hrel := sPl_rel (Gl := Gl) hD N g 0 [] (1000, []) (1048576, []) (by omega) (Or.inr ⟨rfl, rfl⟩)
  rcases hrel with ⟨e, hlt⟩ | ⟨ea, eb⟩
  · rw [e] at hS
    exact h1 hlt v1 hM hB (hK v v1 hKv hM.2.2.1) hS
  · rw [eb] at hS
    exact h0 (by rw [ea]) v1 hM hB (hK v v1 hKv hM.2.2.1) hS.1
/-- both sides lay the plan that they found -/
theorem lay_both {v1 v3 w w2 : xS} {r n : Nat} {st : Nat × List Nat} (hr : r < 6) (hn : n ≤ 3) (I : SHL v 1 6 40 203 204) (k1 : ∀ a, a ∉ scr → v1.1 a = v.1 a) (hS3 : Same [1 + 2, 1 + 3 + r] v1 v3) (a1 : v3.1 (1 + 2) = upd (v1.1 (1 + 2)) r (nI n)) (a2 : ∀ k, k < n → v3.1 (1 + 3 + r) k = v1.1 99 k) (hB : BST v1 st) (hl : st.2.length = n)
    (kw : ∀ a, a ∉ scr → a ≠ 0 → w.1 a = v3.1 a) (hM : BSM w st) (hS4 : Same [203, 204] w w2) (b1 : w2.1 203 = upd (w.1 203) r (nI n)) (b2 : ∀ k, k < n → w2.1 204 (40 * r + k) = w.1 232 k) (b3 : ∀ j, (j < 40 * r ∨ 40 * r + 40 ≤ j) → w2.1 204 j = w.1 204 j) : SHL w2 1 6 40 203 204 := by
  have k3 : ∀ a, a ≠ 3 → a ≠ 1 + 3 + r → v3.1 a = v1.1 a := fun a q1 q2 => hS3.2 a (by simp; omega)
  have k4 : ∀ a, a ≠ 203 → a ≠ 204 → w2.1 a = w.1 a := fun a q1 q2 => hS4.2 a (by simp; omega)
  refine I.put (r := r) (n := n) (by omega) ?_ ?_ ?_ (fun q hq hne => ?_) (fun j hj => ?_) (fun k hk => ?_)
  · rw [k4 1 (by decide) (by decide), kw 1 (by decide) (by decide), k3 1 (by decide) (by omega), k1 1 (by decide)]
  · rw [k4 _ (by decide) (by decide), kw _ (by decide) (by decide), a1, k1 _ (by decide)]
  · rw [b1, kw 203 (by decide) (by decide), k3 203 (by decide) (by omega), k1 203 (by decide)]
  · rw [k4 _ (by omega) (by omega), kw _ (by simp [scr]; omega) (by omega), k3 _ (by omega) (by omega), k1 _ (by simp [scr]; omega)]
  · rw [b3 j hj, kw 204 (by decide) (by decide), k3 204 (by decide) (by omega), k1 204 (by decide)]
  · rw [k4 _ (by omega) (by omega), kw _ (by simp [scr]; omega) (by omega), a2 k hk, b2 k hk, hB.2 k (by omega), hM.2 k (by omega)]
theorem pr_raise (B : Base z) (h : InvR z v R) {x y t r : Int32} : oX5_raise G (d + 16) [.ref 0, .int x, .int y, .int t, .int r] z v (fun r0 v1 => oX6_raise G (d + 16) [.ref 200, .int x, .int y, .int t, .int r] z v1 (fun r' v2 => Pr z r0 r' v2)) := by
  have I := h.1
  have hn := I.D.1
  have i99 : (99 : Int32).toInt = 99 := by decide
  by_cases cx : inR x (dn (rD R))
  case neg => exact vc_X5_raise B (ok_isSpot B I.LC I.D (fun q => absurd q cx) (fun _ => br0 (vc_X6_raise B (om_isSpot B I.LM I.D (fun q => absurd q cx) (fun _ => br0 (Pr.mk rfl h))))))
  have mbad : ¬ ((0 ≤ y.toInt ∧ y.toInt ≤ 99) ∧ (0 ≤ t.toInt ∧ t.toInt ≤ 3) ∧ inR r 6) → oX6_raise G (d + 16) [.ref 200, .int x, .int y, .int t, .int r] z v (fun r' v2 => Pr z (-1) r' v2) := fun hw =>
    vc_X6_raise B (om_isSpot B I.LM I.D (fun _ => br1 (om_in B (fun a b => br1 (om_in B (fun a2 b2 => br1 (om_isRow B (fun cr => absurd ⟨⟨by rw [i32_0] at a; exact a, by rw [i99] at b; exact b⟩, ⟨by rw [i32_0] at a2; exact a2, by rw [i32_3] at b2; exact b2⟩, cr⟩ hw) (fun _ => nb0 (Pr.mk rfl h)))) (fun _ => br0 (Pr.mk rfl h)))) (fun _ => br0 (Pr.mk rfl h)))) (fun q => absurd cx q))
  refine vc_X5_raise B (ok_isSpot B I.LC I.D (fun _ => br1 ⟨fun q => mbad (by rw [i32lt, i32_0] at q; omega), fun q => ⟨fun q2 => ⟨fun q3 => mbad (by rw [i32lt, i32_0] at q3; omega), fun q3 => ⟨fun q4 => mbad (by rw [i32lt, i32_3] at q4; omega), fun q4 => ok_names B (bS_1 B) (by decide) (fun cr => nb1 ?_) (fun cr => nb0 (mbad (fun w => cr w.2.2)))⟩⟩, fun q2 => mbad (by rw [i32le, i99] at q2; omega)⟩⟩) (fun q => absurd cx q))
  rw [i32lt, i32_0] at q q3
  rw [i32le, i99] at q2
  rw [i32lt, i32_3] at q4
  obtain ⟨j, hj, ej, _⟩ := inR_of cx
  obtain ⟨val, eval, eval2, _⟩ := i32nat (x := y) (by omega)
  obtain ⟨N, eN, eN2, _⟩ := i32nat (x := t) (by omega)
  obtain ⟨r, hr, er, _⟩ := inR_of cr
  subst ej eval eN er
  have hN : N ≤ 3 := by omega
  have hv : val ≤ 99 := by omega
  refine ok_aimHigh B I.LC I.D hj (fun v5 hS5 hP5 => ?_)
  have J5 := h.q (QS.of hS5)
  -- the reference's way
  have model : ∀ (u : xS) (Q : Int32 → xS → Prop), LM u (rD R) → Gd u 210 (rD R) (rg R) → ((sPl (rD R) (gH j val) N (rg R) 0 [] (1000, [])).1 = 1000 → ∀ w, QS u w → Q (-9) w) → ((sPl (rD R) (gH j val) N (rg R) 0 [] (1000, [])).1 < 1000 → ∀ w, QS u w → BSM w (sPl (rD R) (gH j val) N (rg R) 0 [] (1000, [])) → ∀ w2, Same [203, 204] w w2 → w2.1 203 = upd (w.1 203) r (nI N) → (∀ k, k < N → w2.1 204 (40 * r + k) = w.1 232 k) → (∀ j, (j < 40 * r ∨ 40 * r + 40 ≤ j) → w2.1 204 j = w.1 204 j) → Q (w2.1 200 33) w2) → oX6_raise G (d + 16) [.ref 200, .int (nI j), .int (nI val), .int (nI N), .int (nI r)] z u Q := by
    intro u Q hL hG q0 q1
    refine vc_X6_raise B (om_isSpot B hL I.D (fun _ => br1 (om_in B (fun _ _ => br1 (om_in B (fun _ _ => br1 (om_isRow B (fun _ => nb1 (fun v9 e9 v10 e10 v11 e11 v12 e12 => ?_)) (fun q => absurd cr q))) (fun a => absurd ⟨by rw [i32_0]; omega, by rw [i32_3]; omega⟩ a))) (fun a => absurd ⟨by rw [i32_0]; omega, by rw [i99]; omega⟩ a))) (fun q => absurd cx q))
    have Q12 : QS u v12 := by rw [e12, e11, e10, e9]; exact ((((QS.rf u).f (by decide)).f (by decide)).f (by decide)).f (by decide)
    have f34 : v12.1 200 34 = -1 := by rw [e12, wV_other _ _ _ _ _ (by decide), e11, wV_other _ _ _ _ _ (by decide), e10, wV_other _ _ _ _ _ (by decide), e9, wV_at]
    have f35 : v12.1 200 35 = nI j := by rw [e12, wV_other _ _ _ _ _ (by decide), e11, wV_other _ _ _ _ _ (by decide), e10, wV_at]
    have f36 : v12.1 200 36 = nI val := by rw [e12, wV_other _ _ _ _ _ (by decide), e11, wV_at]
    have f33 : v12.1 200 33 = 1048576 := by rw [e12, wV_at]
    have L12 : LM v12 (rD R) := ⟨by rw [Q12.2.1.2.2.1]; exact hL.1, by rw [Q12.2.1.2.2.2.1]; exact hL.2.1, by rw [Q12.2.1.2.2.2.2.1]; exact hL.2.2.1, fun i hi => by rw [Q12.1 211 (by decide), Q12.1 212 (by decide), Q12.1 213 (by decide)]; exact hL.2.2.2 i hi⟩
    refine om_search (K := fun w => w.1 200 34 = -1 ∧ w.1 200 35 = nI j ∧ w.1 200 36 = nI val) (Gl := gH j val) B I.D hN (fun a b hab hf => by rw [hf 34 (by decide), hf 35 (by decide), hf 36 (by decide)]; exact hab) (fun d a g Q hK hL hG hs c1 c0 => om_goalH B I.D hj hv hK.1 hK.2.1 hK.2.2 hG hs c1 c0) L12 ⟨f34, f35, f36⟩ (hG.back I.D Q12.2.2) I.s f33 (fun hno v13 hM hB hK h33 => nf h33 (q0 hno v13 (Q12.trans (QS.mpx hM hB (by decide))))) (fun hyes v13 hM hB hK hBS => nt (by rw [hBS.1]; exact fun q => by have := nIinj (b := 1048576) (by omega) (by omega) q; omega) (om_layBest B hr hN (fun w2 c1 c2 c3 c4 => q1 hyes v13 (Q12.trans (QS.mpx hM hB (by decide))) hBS w2 c1 c2 c3 c4)))
  have e1 : d + 15 = (d + (9 - N)) + N + 6 := by omega
  rw [e1]
  refine ok_isFound (K := fun w => PH w (rD R) j val) (Gl := gH j val) (wr := wH (rD R) j val) B J5.1.LC I.D J5.1.g I.s hN (fun a b hab hf _ => ⟨by rw [hf 7 (by decide)]; exact hab.1, by rw [hf 9 (by decide)]; exact hab.2.1, by rw [hf 10 (by decide)]; exact hab.2.2.1, by rw [hf 11 (by decide)]; exact hab.2.2.2⟩) (wH_0 _ _ _) (fun l g hg => wH_ok _ _ _ l g hg) (fun d a b m g Q hK hL ha hG hs hm c1 c0 => ok_withinH B hL I.D hj hv hK ha hG hs hm c1 c0) hP5 (fun v6 hS6 hP6 hno => nb0 ?_) (fun v6 hS6 hP6 hyes hB6 => nb1 ?_)
  · have Q6 : QS v v6 := (QS.of hS5).trans (QS.of hS6)
    have J6 := h.q Q6
    exact model v6 _ J6.1.LM J6.1.G (fun _ w hQ => Pr.mk rfl (J6.q hQ)) (fun q => by omega)
  · rw [← e1]
    have Q6 : QS v v6 := (QS.of hS5).trans (QS.of hS6)
    have J6 := h.q Q6
    have hlen := sPl_len (D := rD R) (Gl := gH j val) (N := N) N (rg R) 0 [] (1000, []) (by simp) (fun q => by omega) hyes
    refine ok_layPlan B J6.1.W1 hr hN (fun v8 hS8 a1 a2 => ?_)
    rw [hS8.2 90 (by simp; omega), hB6.1]
    have k8 : ∀ a, 20 ≤ a → v8.1 a = v6.1 a := fun a ha => hS8.2 a (by simp; omega)
    have M8 : MR v8 R := J6.1.2.2.2.1.row I.D (fun a ha => k8 a (by omega))
    refine model v8 _ M8.lm M8.2.2.1 (fun q => by omega) (fun _ w hQ hM w2 c1 c2 c3 c4 => Pr.mk (R := R) ?_ ?_)
    · rw [c1.2 200 (by decide), hM.1]
    · refine J6.set1q (fun a ha hb => ?_) ?_ ?_ ⟨fun y hy => ?_, fun y hy => ?_⟩ (lay_both hr hN I.rows Q6.1 hS8 a1 a2 hB6 hlen (fun a ha _ => hQ.1 a ha) hM c1 c2 c3 c4)
      · simp [rowsL] at hb
        rw [c1.2 a (by simp; omega), hQ.1 a ha, hS8.2 a (by simp; omega)]
      · rw [c1.2 200 (by decide), hQ.2.1.1, hQ.2.1.2.2.1, hQ.2.1.2.2.2.1, hQ.2.1.2.2.2.2.1, hQ.2.1.2.2.2.2.2, k8 200 (by decide)]
        exact ⟨rfl, rfl, rfl, rfl, rfl⟩
      · rw [c1.2 200 (by decide), hQ.2.1.2.1, k8 200 (by decide)]
      · rw [c1.2 210 (by decide), hQ.2.2.1 y hy, k8 210 (by decide)]
      · rw [c1.2 214 (by decide), hQ.2.2.2 y hy, k8 214 (by decide)]
theorem pr_flat (B : Base z) (h : InvR z v R) {x r : Int32} : oX5_flat G (d + 16) [.ref 0, .int x, .int r] z v (fun r0 v1 => oX6_flat G (d + 16) [.ref 200, .int x, .int r] z v1 (fun r' v2 => Pr z r0 r' v2)) := by
  have I := h.1
  have hn := I.D.1
  by_cases cx : inR x (2 ^ dn (rD R))
  case neg => exact vc_X5_flat B (ok_isSpotSet B I.LC I.D (fun q => absurd q cx) (fun _ => br0 (vc_X6_flat B (om_isSet B I.LM I.D (fun q => absurd q cx) (fun _ => br0 (Pr.mk rfl h))))))
  by_cases cr : inR r 6
  case neg => exact vc_X5_flat B (ok_isSpotSet B I.LC I.D (fun _ => br1 (ok_names B (bS_1 B) (by decide) (fun q => absurd q cr) (fun _ => nb0 (vc_X6_flat B (om_isSet B I.LM I.D (fun _ => br1 (om_isRow B (fun q => absurd q cr) (fun _ => nb0 (Pr.mk rfl h)))) (fun q => absurd cx q)))))) (fun q => absurd cx q))
  obtain ⟨F, hF, eF, _⟩ := inR_of cx
  obtain ⟨r, hr, er, _⟩ := inR_of cr
  subst eF er
  refine vc_X5_flat B (ok_isSpotSet B I.LC I.D (fun _ => br1 (ok_names B (bS_1 B) (by decide) (fun _ => nb1 ⟨fun q => ?_, fun q => ?_⟩) (fun q => absurd cr q))) (fun q => absurd cx q))
  · rw [I.LC.1] at q
    refine ok_aimFlat B I.LC I.D (fun v5 hS5 hP5 => ?_)
    obtain ⟨st, hst⟩ : ∃ st : Nat → Nat × List Nat, st = fun N => sPl (rD R) (gF (rD R) F) N (rg R) 0 [] (1000, []) := ⟨_, rfl⟩
    -- the reference's way
    have model : ∀ (u : xS) (Q : Int32 → xS → Prop), LM u (rD R) → Gd u 210 (rD R) (rg R) → ((∀ n, n < 4 → (st n).1 = 1000) → ∀ w, QS u w → Q (-9) w) → (∀ N, N ≤ 3 → (∀ n, n < N → (st n).1 = 1000) → (st N).1 < 1000 → ∀ w, QS u w → BSM w (st N) → ∀ w2, Same [203, 204] w w2 → w2.1 203 = upd (w.1 203) r (nI N) → (∀ k, k < N → w2.1 204 (40 * r + k) = w.1 232 k) → (∀ j, (j < 40 * r ∨ 40 * r + 40 ≤ j) → w2.1 204 j = w.1 204 j) → Q (nI N) (wV w2 200 2 (w2.1 200 33))) → oX6_flat G (d + 16) [.ref 200, .int (nI F), .int (nI r)] z u Q := by
      intro u Q hL hG q0 q1
      refine vc_X6_flat B (om_isSet B hL I.D (fun _ => br1 (om_isRow B (fun _ => nb1 (nt (by rw [hL.1]; exact q) (fun w0 e0 => ?_))) (fun q => absurd cr q))) (fun q => absurd cx q))
      have loop : ∀ (c n : Nat) (w : xS), n + c = 4 → QS u w → w.1 200 34 = nI F → (∀ k, k < n → (st k).1 = 1000) → aX6_flat G (d + 16) 34 [some (.ref 200), some (.int (nI F)), some (.int (nI r)), some (.int (nI n))] [] z w Q := by
        intro c
        induction c with
        | zero =>
          intro n w hnc hQ h34 hno
          have : n = 4 := by omega
          subst this
          exact vc_X6_flat_34 B (bt (by decide) (q0 hno w hQ))
        | succ c ih =>
          intro n w hnc hQ h34 hno
          refine vc_X6_flat_34 B (bf (by rw [i32lt, i32_3, nIi (by omega)]; omega) (fun w1 e1 => ?_))
          have Q1 : QS u w1 := by rw [e1]; exact hQ.f (by decide)
          have f34 : w1.1 200 34 = nI F := by rw [e1, wV_other _ _ _ _ _ (by decide)]; exact h34
          have f33 : w1.1 200 33 = 1048576 := by rw [e1, wV_at]
          have L1 : LM w1 (rD R) := ⟨by rw [Q1.2.1.2.2.1]; exact hL.1, by rw [Q1.2.1.2.2.2.1]; exact hL.2.1, by rw [Q1.2.1.2.2.2.2.1]; exact hL.2.2.1, fun i hi => by rw [Q1.1 211 (by decide), Q1.1 212 (by decide), Q1.1 213 (by decide)]; exact hL.2.2.2 i hi⟩
          have est : sPl (rD R) (gF (rD R) F) n (rg R) 0 [] (1000, []) = st n := by rw [hst]
          refine om_search (K := fun w => w.1 200 34 = nI F) (Gl := gF (rD R) F) B I.D (by omega) (fun a b hab hf => by rw [hf 34 (by decide)]; exact hab) (fun d a g Q hK hL hG hs c1 c0 => om_goalF B hL I.D hF hK hG hs c1 c0) L1 f34 (hG.back I.D Q1.2.2) I.s f33 (fun hno2 v13 hM hB hK h33 => ?_) (fun hyes v13 hM hB hK hBS => ?_)
          · rw [h33, nI_1]
            refine bt (by decide) (ih (n + 1) v13 (by omega) (Q1.trans (QS.mpx hM hB (by decide))) hK (fun k hk => ?_))
            by_cases hkn : k = n
            · rw [hkn, ← est]; exact hno2
            · exact hno k (by omega)
          · rw [est] at hyes hBS
            refine bf (by rw [hBS.1, i32le, nIi (by omega), show (1048576 : Int32).toInt = 1048576 by decide]; omega) (om_layBest B hr (by omega) (fun w2 c1 c2 c3 c4 => om_ask B ?_))
            exact q1 n (by omega) hno hyes v13 (Q1.trans (QS.mpx hM hB (by decide))) hBS w2 c1 c2 c3 c4
      exact loop 4 0 w0 rfl (by rw [e0]; exact (QS.rf u).f (by decide)) (by rw [e0, wV_at]) (fun k hk => absurd hk (Nat.not_lt_zero _))
    have loop : ∀ (c n : Nat) (w : xS), n + c = 4 → QS v w → PF w (rD R) F → (∀ k, k < n → (st k).1 = 1000) → aX5_flat G (d + 16) 47 [some (.ref 0), some (.int (nI F)), some (.int (nI r)), some (.int (nI n))] [] z w (fun r0 v1 => oX6_flat G (d + 16) [.ref 200, .int (nI F), .int (nI r)] z v1 (fun r' v2 => Pr z r0 r' v2)) := by
      intro c
      induction c with
      | zero =>
        intro n w hnc hQ hP hno
        have : n = 4 := by omega
        subst this
        have Jw := h.q hQ
        exact vc_X5_flat_47 B (bt (by decide) (model w _ Jw.1.LM Jw.1.G (fun _ w2 hQ2 => Pr.mk rfl (Jw.q hQ2)) (fun N hN h1 h2 => by have := hno N (by omega); omega)))
      | succ c ih =>
        intro n w hnc hQ hP hno
        have hN : n ≤ 3 := by omega
        have Jw := h.q hQ
        have e1 : d + 15 = (d + (9 - n)) + n + 6 := by omega
        have est : sPl (rD R) (gF (rD R) F) n (rg R) 0 [] (1000, []) = st n := by rw [hst]
        refine vc_X5_flat_47 B (bf (by rw [i32lt, i32_3, nIi (by omega)]; omega) ?_)
        rw [e1]
        refine ok_isFound (K := fun w => PF w (rD R) F) (Gl := gF (rD R) F) (wr := wF (rD R) F) B Jw.1.LC I.D Jw.1.g I.s hN (fun a b hab hf h98 => ⟨by rw [hf 7 (by decide)]; exact hab.1, by rw [hf 8 (by decide)]; exact hab.2.1, fun x hx => by rw [h98]; exact hab.2.2 x hx⟩) (wF_0 _ _) (fun l g hg => wF_ok _ _ l g hg) (fun d a b m g Q hK hL ha hG hs hm c1 c0 => ok_withinF B hL I.D hF hK ha hG hs hm c1 c0) hP (fun v6 hS6 hP6 hno2 => nb0 ?_) (fun v6 hS6 hP6 hyes hB6 => nb1 ?_)
        · rw [nI_1, ← e1]
          refine ih (n + 1) v6 (by omega) (hQ.trans (QS.of hS6)) hP6 (fun k hk => ?_)
          by_cases hkn : k = n
          · rw [hkn, ← est]; exact hno2
          · exact hno k (by omega)
        · rw [← e1]
          have hlen := sPl_len (D := rD R) (Gl := gF (rD R) F) (N := n) n (rg R) 0 [] (1000, []) (by simp) (fun q => by omega) hyes
          rw [est] at hyes hB6 hlen
          have Q6 : QS v v6 := hQ.trans (QS.of hS6)
          have J6 := h.q Q6
          refine ok_layPlan B J6.1.W1 hr hN (fun v8 hS8 a1 a2 => ok_tell B ?_)
          rw [hS8.2 90 (by simp; omega), hB6.1]
          have k8 : ∀ a, 20 ≤ a → v8.1 a = v6.1 a := fun a ha => hS8.2 a (by simp; omega)
          have J7 := Jv.tell (y := nI (st n).1) J6
          generalize hu : wV v8 0 10 (nI (st n).1) = u
          have ku : ∀ a, a ≠ 0 → u.1 a = v8.1 a := fun a ha => by rw [← hu, wV_ne ha]
          have M8 : MR u R := J6.1.2.2.2.1.row I.D (fun a ha => by rw [ku a (by omega), k8 a (by omega)])
          refine model u _ M8.lm M8.2.2.1 (fun q => by have := q n (by omega); omega) (fun N hN2 h1 h2 w2 hQ2 hM w3 c1 c2 c3 c4 => ?_)
          have eN : N = n := by
            rcases Nat.lt_trichotomy N n with l | l | l
            · have := hno N l; omega
            · exact l
            · have := h1 n l; omega
          subst eN
          have e33 : w3.1 200 33 = nI (st N).1 := by rw [c1.2 200 (by decide), hM.1]
          rw [e33]
          refine Pr.mk rfl (R := R) (Jv.done ?_)
          refine J7.set1q (fun a ha hb => ?_) ?_ ⟨fun y hy => ?_, fun y hy => ?_⟩ (lay_both hr hN I.rows Q6.1 hS8 a1 a2 hB6 hlen (fun a ha h0 => by rw [hQ2.1 a ha, ku a h0]) hM c1 c2 c3 c4)
          · simp [rowsL] at hb
            rw [c1.2 a (by simp; omega), hQ2.1 a ha, ← hu]
            by_cases a0 : a = 0
            · rw [a0, wV_row, wV_row, if_pos rfl, if_pos rfl, hS8.2 0 (by simp; omega)]
            · rw [wV_ne a0, wV_ne a0, hS8.2 a (by simp; omega)]
          · rw [c1.2 200 (by decide), hQ2.2.1.1, hQ2.2.1.2.2.1, hQ2.2.1.2.2.2.1, hQ2.2.1.2.2.2.2.1, hQ2.2.1.2.2.2.2.2, ku 200 (by decide), k8 200 (by decide), wV_ne (by decide)]
            exact ⟨rfl, rfl, rfl, rfl, rfl⟩
          · rw [c1.2 210 (by decide), hQ2.2.2.1 y hy, ku 210 (by decide), k8 210 (by decide), wV_ne (by decide)]
          · rw [c1.2 214 (by decide), hQ2.2.2.2 y hy, ku 214 (by decide), k8 214 (by decide), wV_ne (by decide)]
    exact loop 4 0 v5 rfl (QS.of hS5) hP5 (fun k hk => absurd hk (Nat.not_lt_zero _))
  · rw [I.LC.1] at q
    exact vc_X6_flat B (om_isSet B I.LM I.D (fun _ => br1 (om_isRow B (fun _ => nb1 (nf (by rw [I.LM.1]; exact q) (Pr.mk rfl h))) (fun q => absurd cr q))) (fun q => absurd cx q))
end PPLAN
