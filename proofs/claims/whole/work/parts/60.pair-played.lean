/-! pairs: played, could, twice -/
theorem QS.msp {v v1 : xS} (h : MSP v v1) (hb : Back v v1) : QS v v1 := by
  refine ⟨fun a ha => h.2.1 a (fun q => ha ?_), ⟨h.2.2 0 (by decide) (by decide), h.2.2 2 (by decide) (by decide), h.2.2 8 (by decide) (by decide), h.2.2 9 (by decide) (by decide), h.2.2 15 (by decide) (by decide), h.2.2 24 (by decide) (by decide)⟩, hb⟩
  simp at q
  simp [scr]
  omega
section PPLAY
variable {G : xG} {d : Nat} {z : xZ} {v : xS} {R : xR}
/-- the row fits: as many places as spots -/
theorem ok_fitRefusal {Q : Int32 → xS → Prop} (B : Base z) (hL : LC v (rD R)) (hD : DB (rD R)) (W : WS v 1 6 40) {r : Nat} (hr : r < 6) (h1 : v.1 3 r = -1 → Q (-3) (fnd v 1)) (h2 : 0 ≤ (v.1 3 r).toInt → v.1 3 r ≠ nI (dn (rD R)) → Q (-3) (fnd v 5)) (h3 : v.1 3 r = nI (dn (rD R)) → Q 0 v) : oX5_fitRefusal G (d + 3) [.ref 0, .int (nI r)] z v Q := by
  refine vc_X5_fitRefusal B (ok_holds B (bS_1 B) W hr (fun c => nb1 (ok_sizeOf B (bS_1 B) (by decide) hr ?_)) (fun c => nb0 (ok_find (f := 1) B (by decide) (by decide) (h1 c))))
  rw [hL.1]
  exact ⟨fun q => ok_find (f := 5) B (by decide) (by decide) (h2 c q), fun q => h3 q⟩
theorem ok_isGroundOf {Q : Int32 → xS → Prop} {D : xD} {g : Nat → Nat} (B : Base z) (hL : LC v D) (hD : DB D) (W : WS v 1 6 40) {r a : Nat} (hr : r < 6) (ha : xin z a 10 10) (hG : Gd v a D g) (hs : v.1 3 r = nI (dn D)) {rw : Nat → Int32} (hR : ∀ x, x < dn D → v.1 (4 + r) x = rw x) (h1 : sRw rw D g = true → Q 1 v) (h0 : sRw rw D g = false → Q 0 v) : oX5_isGroundOf G (d + 4) [.ref 0, .int (nI r), .ref a] z v Q := by
  have hn := hD.1
  have e : (v.1 30 0).toInt = dn D := by rw [hL.1]; exact nIi (by omega)
  have loop : ∀ (c x : Nat), x + c = dn D → (∀ y, y < x → nI (g y) = rw y) → aX5_isGroundOf G (d + 4) 2 [some (.ref 0), some (.int (nI r)), some (.ref a), some (.int (nI x))] [] z v Q := by
    intro c
    induction c with
    | zero =>
      intro x hx hy
      have : x = dn D := by omega
      subst this
      exact vc_X5_isGroundOf_2 B ha (bt (by rw [i32le, e, nIi (by omega)]; omega) (h1 (decide_eq_true hy)))
    | succ c ih =>
      intro x hx hy
      refine vc_X5_isGroundOf_2 B ha (bf (by rw [i32le, e, nIi (by omega)]; omega) (ok_getN B (bS_1 B) W hr (n := dn D) hs (by omega) (by omega) ⟨vpN (by omega) (by omega), ?_⟩))
      rw [clN (by omega), show 1 + 3 + r = 4 + r by omega, hR x (by omega), hG x (by omega), nI_1]
      refine ⟨fun q => ih (x + 1) (by omega) (fun y hyy => ?_), fun q => h0 (decide_eq_false (fun w => q (w x (by omega)).symm))⟩
      by_cases hyx : y = x
      · rw [hyx]; exact q.symm
      · exact hy y (by omega)
  exact vc_X5_isGroundOf B ha (loop (dn D) 0 (by omega) (fun y hy => absurd hy (Nat.not_lt_zero _)))
theorem ok_groundRefusal {Q : Int32 → xS → Prop} (B : Base z) (hL : LC v (rD R)) (hD : DB (rD R)) (W : WS v 1 6 40) {x : Int32} (h0 : ¬ inR x 6 → Q (-1) v) (h4 : inR x 6 → dn (rD R) = 0 → Q (-4) v) (h1 : ∀ r, r < 6 → x = nI r → dn (rD R) ≠ 0 → v.1 3 r = -1 → Q (-3) (fnd v 1)) (h2 : ∀ r, r < 6 → x = nI r → dn (rD R) ≠ 0 → 0 ≤ (v.1 3 r).toInt → v.1 3 r ≠ nI (dn (rD R)) → Q (-3) (fnd v 5)) (h3 : ∀ r, r < 6 → x = nI r → dn (rD R) ≠ 0 → v.1 3 r = nI (dn (rD R)) → Q 0 v) : oX5_groundRefusal G (d + 4) [.ref 0, .int x] z v Q := by
  have hn := hD.1
  refine vc_X5_groundRefusal B (ok_names B (bS_1 B) (by decide) (fun c => nb1 ⟨fun q => ?_, fun q => h4 c ?_⟩) (fun c => nb0 (h0 c)))
  · obtain ⟨r, hr, e, _⟩ := inR_of c
    subst e
    have hn0 : dn (rD R) ≠ 0 := fun w => q (by rw [hL.1, w]; rfl)
    exact ok_fitRefusal B hL hD W hr (h1 r hr rfl hn0) (h2 r hr rfl hn0) (h3 r hr rfl hn0)
  · rw [hL.1] at q; exact nIinj (b := 0) (by omega) (by omega) q
/-- the refusals of both sides side by side -/
theorem pr_ground {Qc : Int32 → xS → Prop} {M : xS → (Int32 → xS → Prop) → Prop} (B : Base z) (h : InvR z v R) {x : Int32}
    (hM : ∀ (u : xS) (Q : Int32 → xS → Prop), (∀ Q' : Int32 → xS → Prop, (∀ r w, ¬ 0 ≤ r → Q r w → Q' r w) → oX6_askedPlayed G (d + 14) [.ref 200, .int x] z u Q') → M u Q)
    (hno : ∀ (r0 : Int32) (v1 : xS), r0 ≠ 0 → M v1 (fun r' v2 => Pr z r0 r' v2) → Qc r0 v1)
    (hgo : ∀ r, r < 6 → x = nI r → dn (rD R) ≠ 0 → v.1 3 r = nI (dn (rD R)) → v.1 203 r = nI (dn (rD R)) → (∀ k, k < dn (rD R) → v.1 (4 + r) k = v.1 204 (40 * r + k)) → Qc 0 v) : oX5_groundRefusal G (d + 14) [.ref 0, .int x] z v Qc := by
  have I := h.1
  have hn := I.D.1
  have hrw := I.rows
  refine ok_groundRefusal B I.LC I.D I.W1 (fun c => hno _ _ (by decide) (hM _ _ (fun Q' hw => om_askedPlayed B I.LM I.D (fun _ => hw _ _ (by decide) (Pr.mk rfl h)) (fun q => absurd q c) (fun r hr e => absurd (by rw [e]; exact inR_nI hr (by omega)) c) (fun r hr e => absurd (by rw [e]; exact inR_nI hr (by omega)) c) (fun r hr e => absurd (by rw [e]; exact inR_nI hr (by omega)) c)))) (fun c n0 => hno _ _ (by decide) (hM _ _ (fun Q' hw => om_askedPlayed B I.LM I.D (fun q => absurd c q) (fun _ _ => hw _ _ (by decide) (Pr.mk rfl h)) (fun r hr e q => absurd n0 q) (fun r hr e q => absurd n0 q) (fun r hr e q => absurd n0 q)))) (fun r hr e n0 hs => ?_) (fun r hr e n0 hs hs2 => ?_) (fun r hr e n0 hs => ?_)
  · have J := h.find (f := 1) (by decide) (by decide)
    have g3 : (fnd v 1).1 203 = v.1 203 := fnd_ne (by decide) (by decide)
    have h9 : v.1 203 r = -9 := by
      rcases hrw.2 r hr with ⟨_, c2⟩ | ⟨n, hn, c1, c2, c3⟩
      · exact c2
      · rw [show 1 + 2 = 3 from rfl, hs] at c1
        have := (i32eq _ _).mp c1
        rw [i32_m1, nIi (by omega)] at this; omega
    refine hno _ _ (by decide) (hM _ _ (fun Q' hw => om_askedPlayed B J.1.LM I.D (fun q => absurd (by rw [e]; exact inR_nI hr (by omega)) q) (fun _ q => absurd q n0) (fun _ _ _ _ _ => hw _ _ (by decide) (Pr.mk rfl J.done)) (fun r' hr' e' _ q => ?_) (fun r' hr' e' _ q => ?_)))
    · rw [e] at e'
      rw [g3, ← nIinj (by omega) (by omega) e', h9, i32_m9] at q; omega
    · rw [e] at e'
      rw [g3, ← nIinj (by omega) (by omega) e', h9] at q; exact absurd q.symm (nI_ne9 (by omega))
  · have J := h.find (f := 5) (by decide) (by decide)
    have g3 : (fnd v 5).1 203 = v.1 203 := fnd_ne (by decide) (by decide)
    rcases hrw.2 r hr with ⟨c1, _⟩ | ⟨n, hn, c1, c2, c3⟩
    · rw [show 1 + 2 = 3 from rfl] at c1; rw [c1, i32_m1] at hs; omega
    rw [show 1 + 2 = 3 from rfl] at c1
    refine hno _ _ (by decide) (hM _ _ (fun Q' hw => om_askedPlayed B J.1.LM I.D (fun q => absurd (by rw [e]; exact inR_nI hr (by omega)) q) (fun _ q => absurd q n0) (fun r' hr' e' _ q => ?_) (fun _ _ _ _ _ _ => hw _ _ (by decide) (Pr.mk rfl J.done)) (fun r' hr' e' _ q => ?_)))
    · rw [e] at e'
      rw [g3, ← nIinj (by omega) (by omega) e', c2, nIi (by omega)] at q; omega
    · rw [e] at e'
      rw [g3, ← nIinj (by omega) (by omega) e', c2] at q
      rw [c1, q] at hs2
      exact absurd rfl hs2
  · rcases hrw.2 r hr with ⟨c1, _⟩ | ⟨n, hnn, c1, c2, c3⟩
    · rw [show 1 + 2 = 3 from rfl, hs] at c1
      have := (i32eq _ _).mp c1
      rw [nIi (by omega), i32_m1] at this; omega
    · rw [show 1 + 2 = 3 from rfl, hs] at c1
      have en : dn (rD R) = n := nIinj (by omega) (by omega) c1
      refine hgo r hr e n0 hs (by rw [c2, en]) (fun k hk => ?_)
      rw [show 4 + r = 1 + 3 + r by omega]
      exact c3 k (by omega)
theorem sCnt_s (P : Nat → Bool) (c : Nat) : sCnt P (c + 1) = sCnt P c + if P c = true then 1 else 0 := rfl
theorem sFst_s (P : Nat → Bool) (c : Nat) : sFst P (c + 1) = if sCnt P c = 0 ∧ P c = true then nI c else sFst P c := rfl
theorem sMsk_s (P : Nat → Bool) (i c : Nat) : sMsk P i (c + 1) = if P c = true then sMsk P i c ||| ((1 : Int32) <<< (nI (tn c i) &&& 31)) else sMsk P i c := rfl
theorem pr_played (B : Base z) (h : InvR z v R) {x : Int32} : oX5_played G (d + 16) [.ref 0, .int x] z v (fun r v1 => oX6_played G (d + 16) [.ref 200, .int x] z v1 (fun r' v2 => Pr z r r' v2)) := by
  have I := h.1
  have hn := I.D.1
  have hp27 := pow3 I.D.2.1
  refine vc_X5_played B (pr_ground (d := d + 1) (M := fun u Q => oX6_played G (d + 16) [.ref 200, .int x] z u Q) B h (fun u Q hq => vc_X6_played B (hq _ (fun r w hr hqr => bf hr hqr))) (fun r0 v1 h0 hm => bf h0 hm) (fun r hr e n0 h3 h203 h4 => bt rfl (ok_programs B I.LC I.D ?_)))
  subst e
  obtain ⟨P, hP⟩ : ∃ P : Nat → Bool, P = fun p => sRw (fun k => v.1 204 (40 * r + k)) (rD R) (eG (rD R) p (rg R)) := ⟨_, rfl⟩
  have loop : ∀ (c p : Nat) (u : xS), p + c = 3 ^ db (rD R) → QS v u → aX5_played G (d + 16) 30 [some (.ref 0), some (.int (nI r)), some (.int 0), some (.int (nI (sCnt P p))), some (.int (sFst P p)), some (.int (nI (3 ^ db (rD R)))), some (.int (nI p))] [] z u (fun r0 v1 => oX6_played G (d + 16) [.ref 200, .int (nI r)] z v1 (fun r' v2 => Pr z r0 r' v2)) := by
    intro c
    induction c with
    | zero =>
      intro p u hp hQ
      have : p = 3 ^ db (rD R) := by omega
      subst this
      refine vc_X5_played_30 B (bt (by rw [i32le]; omega) (ok_tell B ?_))
      have J1 := Jv.tell (y := sFst P (3 ^ db (rD R))) (Jv.q h hQ)
      have g3 : (wV u 0 10 (sFst P (3 ^ db (rD R)))).1 203 = v.1 203 := by rw [wV_ne (by decide), hQ.1 203 (by decide)]
      have g4 : (wV u 0 10 (sFst P (3 ^ db (rD R)))).1 204 = v.1 204 := by rw [wV_ne (by decide), hQ.1 204 (by decide)]
      generalize wV u 0 10 (sFst P (3 ^ db (rD R))) = u1 at J1 g3 g4
      refine vc_X6_played B (om_askedPlayed B J1.1.LM I.D (fun q => absurd (inR_nI hr (by omega)) q) (fun _ q => absurd q n0) (fun r' hr' e' _ q => ?_) (fun r' hr' e' _ _ q => ?_) (fun r' hr' e' _ q => bt (by decide) (om_setPlayed B J1.1.LM I.D J1.1.G I.s hr (rw := fun k => v.1 204 (40 * r + k)) (fun k _ => by rw [g4]) hP (fun u2 hM hBk e38 e39 _ => ?_))))
      · rw [g3, ← nIinj (by omega) (by omega) e', h203, nIi (by omega)] at q; omega
      · rw [g3, ← nIinj (by omega) (by omega) e'] at q; exact absurd h203 q
      · rw [e38, e39]
        exact om_ask B (Pr.mk rfl (J1.q (QS.msp hM hBk)).done)
    | succ c ih =>
      intro p u hp hQ
      have Ju := h.q hQ
      have hc := sCnt_le P p
      refine vc_X5_played_30 B (bf (by rw [i32le, nIi (by omega), nIi (by omega)]; omega) (ok_repeat1 B Ju.1.LC I.D Ju.1.g I.s (by omega) (fun r1 u2 hS2 hG2 => ?_)))
      have Q2 : QS v u2 := hQ.trans (QS.of hS2)
      have J2 := h.q Q2
      have go := ih (p + 1) u2 (by omega) Q2
      rw [sCnt_s, sFst_s] at go
      have hPp : P p = sRw (fun k => v.1 204 (40 * r + k)) (rD R) (eG (rD R) p (rg R)) := by rw [hP]
      rw [nI_1 p]
      refine ok_isGroundOf B J2.1.LC I.D J2.1.W1 hr (bI_71 B) hG2 (by rw [Q2.1 3 (by decide)]; exact h3) (rw := fun k => v.1 204 (40 * r + k)) (fun k hk => by rw [Q2.1 _ (by simp [scr]; omega)]; exact h4 k hk) (fun w => nb1 ⟨fun q => ?_, fun q => ?_⟩) (fun w => nb0 ?_)
      · have hc0 : ¬ sCnt P p = 0 := fun q2 => q (by rw [q2]; rfl)
        rw [if_pos (hPp.trans w), if_neg (fun q2 => hc0 q2.1), ← nI_1] at go
        exact go
      · have hc0 : sCnt P p = 0 := nIinj (b := 0) (by omega) (by omega) q
        rw [if_pos (hPp.trans w), if_pos ⟨hc0, hPp.trans w⟩, ← nI_1] at go
        exact go
      · have w' : ¬ P p = true := by rw [hPp, w]; decide
        rw [if_neg w', if_neg (fun q2 => w' q2.2), Nat.add_zero] at go
        exact go
  exact loop (3 ^ db (rD R)) 0 v (by omega) (QS.rf v)
theorem pr_could (B : Base z) (h : InvR z v R) {x y : Int32} : oX5_could G (d + 16) [.ref 0, .int x, .int y] z v (fun r v1 => oX6_could G (d + 16) [.ref 200, .int x, .int y] z v1 (fun r' v2 => Pr z r r' v2)) := by
  have I := h.1
  have hn := I.D.1
  have hb := I.D.2.1
  have hp27 := pow3 I.D.2.1
  have hrw := I.rows
  by_cases cx : inR x (db (rD R))
  case neg => exact vc_X5_could B (ok_isBand B I.LC I.D (fun q => absurd q cx) (fun _ => br0 (vc_X6_could B (om_isBand B I.LM I.D (fun q => absurd q cx) (fun _ => br0 (Pr.mk rfl h))))))
  by_cases cy : inR y 6
  case neg => exact vc_X5_could B (ok_isBand B I.LC I.D (fun _ => br1 (ok_names B (bS_1 B) (by decide) (fun q => absurd q cy) (fun _ => nb0 (vc_X6_could B (om_isBand B I.LM I.D (fun _ => br1 (om_isRow B (fun q => absurd q cy) (fun _ => nb0 (Pr.mk rfl h)))) (fun q => absurd cx q)))))) (fun q => absurd cx q))
  obtain ⟨i, hi, ei, _⟩ := inR_of cx
  obtain ⟨r, hr, er, _⟩ := inR_of cy
  subst ei er
  refine vc_X5_could B (ok_isBand B I.LC I.D (fun _ => br1 (ok_names B (bS_1 B) (by decide) (fun _ => nb1 (ok_fitRefusal B I.LC I.D I.W1 hr (fun hs => bf (by decide) ?_) (fun hs hs2 => bf (by decide) ?_) (fun hs => bt rfl (ok_programs B I.LC I.D ?_)))) (fun q => absurd cy q))) (fun q => absurd cx q))
  · have J := h.find (f := 1) (by decide) (by decide)
    have g3 : (fnd v 1).1 203 = v.1 203 := fnd_ne (by decide) (by decide)
    have h9 : v.1 203 r = -9 := by
      rcases hrw.2 r hr with ⟨_, c2⟩ | ⟨n, hn, c1, c2, c3⟩
      · exact c2
      · rw [show 1 + 2 = 3 from rfl, hs] at c1
        have := (i32eq _ _).mp c1
        rw [i32_m1, nIi (by omega)] at this; omega
    refine vc_X6_could B (om_isBand B J.1.LM I.D (fun _ => br1 (om_isRow B (fun _ => nb1 (om_askedHeights B J.1.LM I.D (fun q => absurd cy q) (fun _ _ _ _ => bf (by decide) (Pr.mk rfl J.done)) (fun r' hr' e' q => ?_) (fun r' hr' e' q => ?_))) (fun q => absurd cy q))) (fun q => absurd cx q))
    · rw [g3, ← nIinj (by omega) (by omega) e', h9, i32_m9] at q; omega
    · rw [g3, ← nIinj (by omega) (by omega) e', h9] at q; exact absurd q.symm (nI_ne9 (by omega))
  · have J := h.find (f := 5) (by decide) (by decide)
    have g3 : (fnd v 5).1 203 = v.1 203 := fnd_ne (by decide) (by decide)
    rcases hrw.2 r hr with ⟨c1, _⟩ | ⟨n, hn, c1, c2, c3⟩
    · rw [show 1 + 2 = 3 from rfl] at c1; rw [c1, i32_m1] at hs; omega
    rw [show 1 + 2 = 3 from rfl] at c1
    refine vc_X6_could B (om_isBand B J.1.LM I.D (fun _ => br1 (om_isRow B (fun _ => nb1 (om_askedHeights B J.1.LM I.D (fun q => absurd cy q) (fun r' hr' e' q => ?_) (fun _ _ _ _ _ => bf (by decide) (Pr.mk rfl J.done)) (fun r' hr' e' q => ?_))) (fun q => absurd cy q))) (fun q => absurd cx q))
    · rw [g3, ← nIinj (by omega) (by omega) e', c2, nIi (by omega)] at q; omega
    · rw [g3, ← nIinj (by omega) (by omega) e', c2] at q
      rw [c1, q] at hs2
      exact absurd rfl hs2
  · rcases hrw.2 r hr with ⟨c1, _⟩ | ⟨n, hnn, c1, h203, h4⟩
    · rw [show 1 + 2 = 3 from rfl, hs] at c1
      have := (i32eq _ _).mp c1
      rw [nIi (by omega), i32_m1] at this; omega
    rw [show 1 + 2 = 3 from rfl, hs] at c1
    have en : dn (rD R) = n := nIinj (by omega) (by omega) c1
    subst en
    rw [show 1 + 3 + r = 4 + r by omega] at h4
    obtain ⟨P, hP⟩ : ∃ P : Nat → Bool, P = fun p => sRw (fun k => v.1 204 (40 * r + k)) (rD R) (eG (rD R) p (rg R)) := ⟨_, rfl⟩
    have loop : ∀ (c p : Nat) (u : xS), p + c = 3 ^ db (rD R) → QS v u → aX5_could G (d + 16) 51 [some (.ref 0), some (.int (nI i)), some (.int (nI r)), some (.int 0), some (.int (sMsk P i p)), some (.int (nI (3 ^ db (rD R)))), some (.int (nI p))] [] z u (fun r0 v1 => oX6_could G (d + 16) [.ref 200, .int (nI i), .int (nI r)] z v1 (fun r' v2 => Pr z r0 r' v2)) := by
      intro c
      induction c with
      | zero =>
        intro p u hp hQ
        have : p = 3 ^ db (rD R) := by omega
        subst this
        have J1 := h.q hQ
        have g3 : u.1 203 = v.1 203 := hQ.1 203 (by decide)
        have g4 : u.1 204 = v.1 204 := hQ.1 204 (by decide)
        refine vc_X5_could_51 B (bt (by rw [i32le]; omega) (vc_X6_could B (om_isBand B J1.1.LM I.D (fun _ => br1 (om_isRow B (fun _ => nb1 (om_askedHeights B J1.1.LM I.D (fun q => absurd cy q) (fun r' hr' e' q => ?_) (fun r' hr' e' _ q => ?_) (fun r' hr' e' q => bt (by decide) (om_setPlayed B J1.1.LM I.D J1.1.G I.s hr (rw := fun k => v.1 204 (40 * r + k)) (fun k _ => by rw [g4]) hP (fun u2 hM hBk _ _ e240 => ⟨vpN (by omega) (by omega), ?_⟩))))) (fun q => absurd cy q))) (fun q => absurd cx q))))
        · rw [g3, ← nIinj (by omega) (by omega) e', h203, nIi (by omega)] at q; omega
        · rw [g3, ← nIinj (by omega) (by omega) e'] at q; exact absurd h203 q
        · rw [clN (by omega), e240 i hi]
          exact Pr.mk rfl (J1.q (QS.msp hM hBk))
      | succ c ih =>
        intro p u hp hQ
        have Ju := h.q hQ
        refine vc_X5_could_51 B (bf (by rw [i32le, nIi (by omega), nIi (by omega)]; omega) (ok_repeat1 B Ju.1.LC I.D Ju.1.g I.s (by omega) (fun r1 u2 hS2 hG2 => ?_)))
        have Q2 : QS v u2 := hQ.trans (QS.of hS2)
        have J2 := h.q Q2
        have go := ih (p + 1) u2 (by omega) Q2
        rw [sMsk_s] at go
        have hPp : P p = sRw (fun k => v.1 204 (40 * r + k)) (rD R) (eG (rD R) p (rg R)) := by rw [hP]
        rw [nI_1 p]
        refine ok_isGroundOf B J2.1.LC I.D J2.1.W1 hr (bI_71 B) hG2 (by rw [Q2.1 3 (by decide)]; exact hs) (rw := fun k => v.1 204 (40 * r + k)) (fun k hk => by rw [Q2.1 _ (by simp [scr]; omega)]; exact h4 k hk) (fun w => br1 (ok_tuneOf B (by omega) (by omega) ?_)) (fun w => br0 ?_)
        · rw [if_pos (hPp.trans w)] at go
          exact go
        · rw [if_neg (by rw [hPp, w]; decide)] at go
          exact go
    exact loop (3 ^ db (rD R)) 0 v (by omega) (QS.rf v)
/-- all pairs of programs in order -/
def sTc (P : Nat → Nat → Bool) (N : Nat) : Nat → Nat
  | 0 => 0
  | k + 1 => sTc P N k + sCnt (P k) N
def sTf (P : Nat → Nat → Bool) (N : Nat) : Nat → Int32
  | 0 => -9
  | k + 1 => if sTc P N k = 0 ∧ 0 < sCnt (P k) N then 1000 * nI k + sFst (P k) N else sTf P N k
theorem sTc_le (P : Nat → Nat → Bool) (N : Nat) : ∀ k, sTc P N k ≤ N * k
  | 0 => by simp [sTc]
  | k + 1 => by
    have h1 := sTc_le P N k
    have h2 := sCnt_le (P k) N
    rw [sTc, Nat.mul_succ]; omega
theorem pr_twice (B : Base z) (h : InvR z v R) {x : Int32} : oX5_twice G (d + 16) [.ref 0, .int x] z v (fun r v1 => oX6_twice G (d + 16) [.ref 200, .int x] z v1 (fun r' v2 => Pr z r r' v2)) := by
  have I := h.1
  have hn := I.D.1
  have hp27 := pow3 I.D.2.1
  refine vc_X5_twice B (pr_ground (d := d + 1) (M := fun u Q => oX6_twice G (d + 16) [.ref 200, .int x] z u Q) B h (fun u Q hq => vc_X6_twice B (hq _ (fun r w hr hqr => bf hr hqr))) (fun r0 v1 h0 hm => bf h0 hm) (fun r hr e n0 h3 h203 h4 => bt rfl (ok_programs B I.LC I.D ?_)))
  subst e
  obtain ⟨N, hN⟩ : ∃ N : Nat, N = 3 ^ db (rD R) := ⟨_, rfl⟩
  obtain ⟨P, hP⟩ : ∃ P : Nat → Nat → Bool, P = fun k q => sRw (fun k => v.1 204 (40 * r + k)) (rD R) (eG (rD R) q (eG (rD R) k (rg R))) := ⟨_, rfl⟩
  rw [← hN] at hp27 ⊢
  have hcle : ∀ k, k ≤ N → sTc P N k ≤ 729 := fun k hk => by
    have h1 := sTc_le P N k
    have h2 : N * k ≤ 27 * 27 := Nat.mul_le_mul hp27 (by omega)
    omega
  -- the reference
  have model : ∀ u1 : xS, Jv z u1 R (sTf P N N) → u1.1 203 = v.1 203 → u1.1 204 = v.1 204 → oX6_twice G (d + 16) [.ref 200, .int (nI r)] z u1 (fun r' v2 => Pr z (nI (sTc P N N)) r' v2) := by
    intro u1 J1 g3 g4
    refine vc_X6_twice B (om_askedPlayed B J1.1.LM I.D (fun q => absurd (inR_nI hr (by omega)) q) (fun _ q => absurd q n0) (fun r' hr' e' _ q => ?_) (fun r' hr' e' _ _ q => ?_) (fun r' hr' e' _ q => bt (by decide) (om_write (at0 := 0) B (bI_230 B) ⟨by decide, by decide⟩ (by decide) (by decide) (fun u2 hS2 w1 w2 _ => ?_))))
    · rw [g3, ← nIinj (by omega) (by omega) e', h203, nIi (by omega)] at q; omega
    · rw [g3, ← nIinj (by omega) (by omega) e'] at q; exact absurd h203 q
    have loop : ∀ (c k : Nat) (u : xS), k + c = N → QS u1 u → Noted u1 u 230 0 → aX6_twice G (d + 16) 30 [some (.ref 200), some (.int (nI r)), some (.int 0), some (.int (nI (sTc P N k))), some (.int (sTf P N k)), some (.int (nI k))] [] z u (fun r' v2 => Pr z (nI (sTc P N N)) r' v2) := by
      intro c
      induction c with
      | zero =>
        intro k u hk hQ hNt
        have : k = N := by omega
        subst this
        have Ju := J1.q hQ
        refine vc_X6_twice_30 B (om_programs B Ju.1.LM I.D (bt (by rw [← hN, i32le]; omega) (om_ask B (Pr.mk rfl Ju.done))))
      | succ c ih =>
        intro k u hk hQ hNt
        have Ju := J1.q hQ
        have hk1 := hcle k (by omega)
        have hk2 := sCnt_le (P k) N
        refine vc_X6_twice_30 B (om_programs B Ju.1.LM I.D (bf (by rw [← hN, i32le, nIi (by omega), nIi (by omega)]; omega) (om_passEvening B Ju.1.LM I.D Ju.1.G I.s (by omega) (fun u3 hS3 hG3 _ => ?_))))
        refine om_setPlayed B (Ju.1.LM.same hS3) I.D hG3 (by rw [sEvG_sm]; exact I.s) hr (rw := fun k => v.1 204 (40 * r + k)) (fun y _ => by rw [hS3.2 204 (by decide), hQ.1 204 (by decide), g4]) (P := P k) (by rw [hP]) (fun u4 hM hBk e38 e39 _ => ?_)
        rw [← hN] at e38 e39
        refine om_read (at0 := 0) B (bI_230 B) ⟨by decide, by decide⟩ (by decide) (by decide) (fun u5 hS5 r1 r2 => ?_)
        have n4 : Noted u1 u4 230 0 := ⟨fun y hy => by rw [hM.2.1 230 (by decide), hS3.2 230 (by decide)]; exact hNt.1 y hy, fun y hy => by rw [hM.2.1 230 (by decide), hS3.2 230 (by decide)]; exact hNt.2 y hy⟩
        have n5 : Noted u1 u5 230 0 := ⟨fun y hy => by rw [hS5.2 230 (by decide)]; exact n4.1 y hy, fun y hy => by rw [hS5.2 230 (by decide)]; exact n4.2 y hy⟩
        have b5 : Back u1 u5 := ⟨fun y hy => (r1 y hy).trans (n4.1 y hy), fun y hy => (r2 y hy).trans (n4.2 y hy)⟩
        have f5 : ∀ f, f ≠ 38 → f ≠ 39 → u5.1 200 f = u.1 200 f := fun f q1 q2 => by rw [hS5.2 200 (by decide), hM.2.2 f q1 q2, hS3.2 200 (by decide)]
        have Q5 : QS u1 u5 := by
          refine ⟨fun a ha => ?_, ⟨?_, ?_, ?_, ?_, ?_, ?_⟩, b5⟩
          · rw [hS5.2 a (fun q => ha (by simp at q; simp [scr]; omega)), hM.2.1 a (fun q => ha (by simp at q; simp [scr]; omega)), hS3.2 a (fun q => ha (by simp at q; simp [scr]; omega))]
            exact hQ.1 a ha
          · rw [f5 0 (by decide) (by decide)]; exact hQ.2.1.1
          · rw [f5 2 (by decide) (by decide)]; exact hQ.2.1.2.1
          · rw [f5 8 (by decide) (by decide)]; exact hQ.2.1.2.2.1
          · rw [f5 9 (by decide) (by decide)]; exact hQ.2.1.2.2.2.1
          · rw [f5 15 (by decide) (by decide)]; exact hQ.2.1.2.2.2.2.1
          · rw [f5 24 (by decide) (by decide)]; exact hQ.2.1.2.2.2.2.2
        have go := ih (k + 1) u5 (by omega) Q5 n5
        rw [sTc, sTf, ← nI_1 k, ← nI_add] at go
        rw [hS5.2 200 (by decide), e38, e39]
        refine ⟨fun q => ?_, fun q => ⟨fun q2 => ?_, fun q2 => ?_⟩⟩
        · have : ¬ sTc P N k = 0 := fun w => q (by rw [w]; rfl)
          rw [if_neg (fun w => this w.1)] at go
          exact go
        · rw [i32le, i32_0, nIi (by omega)] at q2
          rw [if_neg (fun w => by omega)] at go
          exact go
        · rw [i32le, i32_0, nIi (by omega)] at q2
          rw [if_pos ⟨nIinj (b := 0) (by omega) (by omega) q, by omega⟩] at go
          exact go
    refine loop N 0 u2 (by omega) (QS.of hS2) ⟨fun y hy => w1 y hy, fun y hy => w2 y hy⟩
  -- the class
  have outer : ∀ (c k : Nat) (u : xS), k + c = N → QS v u → aX5_twice G (d + 16) 30 [some (.ref 0), some (.int (nI r)), some (.int 0), some (.int (nI (sTc P N k))), some (.int (sTf P N k)), some (.int (nI N)), some (.int (nI k)), none] [] z u (fun r0 v1 => oX6_twice G (d + 16) [.ref 200, .int (nI r)] z v1 (fun r' v2 => Pr z r0 r' v2)) := by
    intro c
    induction c with
    | zero =>
      intro k u hk hQ
      have : k = N := by omega
      subst this
      refine vc_X5_twice_30 B (bt (by rw [i32le]; omega) (ok_tell B ?_))
      exact model _ (Jv.tell (y := sTf P k k) (Jv.q h hQ)) (by rw [wV_ne (by decide), hQ.1 203 (by decide)]) (by rw [wV_ne (by decide), hQ.1 204 (by decide)])
    | succ c ih =>
      intro k u hk hQ
      have Ju := h.q hQ
      have hk1 := hcle k (by omega)
      refine vc_X5_twice_30 B (bf (by rw [i32le, nIi (by omega), nIi (by omega)]; omega) (ok_repeat1 B Ju.1.LC I.D Ju.1.g I.s (by omega) (fun r1 u2 hS2 hG2 => ?_)))
      have inner : ∀ (c2 q : Nat) (w : xS), q + c2 = N → QS v w → Gd w 71 (rD R) (eG (rD R) k (rg R)) → aX5_twice G (d + 16) 51 [some (.ref 0), some (.int (nI r)), some (.int 0), some (.int (nI (sTc P N k + sCnt (P k) q))), some (.int (if sTc P N k = 0 ∧ 0 < sCnt (P k) q then 1000 * nI k + sFst (P k) q else sTf P N k)), some (.int (nI N)), some (.int (nI k)), some (.int (nI q))] [] z w (fun r0 v1 => oX6_twice G (d + 16) [.ref 200, .int (nI r)] z v1 (fun r' v2 => Pr z r0 r' v2)) := by
        intro c2
        induction c2 with
        | zero =>
          intro q w hq hQw hGw
          have : q = N := by omega
          subst this
          have go := ih (k + 1) w (by omega) hQw
          rw [sTc, sTf, ← nI_1 k] at go
          exact vc_X5_twice_51 B (bt (by rw [i32le]; omega) go)
        | succ c2 ih2 =>
          intro q w hq hQw hGw
          have Jw := h.q hQw
          have hcq := sCnt_le (P k) q
          refine vc_X5_twice_51 B (bf (by rw [i32le, nIi (by omega), nIi (by omega)]; omega) (ok_playBehind B Jw.1.LC I.D hGw (by rw [sEvG_sm]; exact I.s) (by omega) (fun w2 hSw hG72 => ?_)))
          have Q2 : QS v w2 := hQw.trans (QS.of hSw)
          have J2 := h.q Q2
          have go := ih2 (q + 1) w2 (by omega) Q2 (hGw.same hSw (by decide))
          rw [sCnt_s, sFst_s] at go
          have hPp : P k q = sRw (fun k => v.1 204 (40 * r + k)) (rD R) (eG (rD R) q (eG (rD R) k (rg R))) := by rw [hP]
          rw [nI_1 q]
          refine ok_isGroundOf B J2.1.LC I.D J2.1.W1 hr (bI_72 B) hG72 (by rw [Q2.1 3 (by decide)]; exact h3) (rw := fun k => v.1 204 (40 * r + k)) (fun y hy => by rw [Q2.1 _ (by simp [scr]; omega)]; exact h4 y hy) (fun w => nb1 ⟨fun q3 => ?_, fun q3 => ?_⟩) (fun w => nb0 ?_)
          · have hc0 : ¬ sTc P N k + sCnt (P k) q = 0 := fun q4 => q3 (by rw [q4]; rfl)
            rw [if_pos (hPp.trans w), ← Nat.add_assoc, ← nI_1] at go
            by_cases t0 : sTc P N k = 0
            · rw [if_pos ⟨t0, by omega⟩, if_neg (fun q4 => by omega)] at go
              rw [if_pos ⟨t0, by omega⟩]
              exact go
            · rw [if_neg (fun q4 => t0 q4.1)] at go
              rw [if_neg (fun q4 => t0 q4.1)]
              exact go
          · have hc0 : sTc P N k + sCnt (P k) q = 0 := nIinj (b := 0) (by omega) (by omega) q3
            rw [if_pos (hPp.trans w), ← Nat.add_assoc, ← nI_1, if_pos ⟨by omega, by omega⟩, if_pos ⟨by omega, hPp.trans w⟩] at go
            exact go
          · have w' : ¬ P k q = true := by rw [hPp, w]; decide
            rw [if_neg w', Nat.add_zero, if_neg (c := sCnt (P k) q = 0 ∧ P k q = true) (fun q2 => w' q2.2)] at go
            exact go
      have go := inner N 0 u2 (by omega) (hQ.trans (QS.of hS2)) hG2
      rw [show sCnt (P k) 0 = 0 from rfl, Nat.add_zero, if_neg (fun w => absurd w.2 (Nat.lt_irrefl 0))] at go
      exact go
  exact outer N 0 v (by omega) (QS.rf v)
end PPLAY
