/-! Aside: two rivals, turn by turn -/
def sBetter (up : Bool) (new old : Nat) : Bool := if up = true then decide (old < new) else decide (new < old)
def sPick (up : Bool) (f : Nat → Nat) : Nat → Nat × Nat
  | 0 => (f 0, 0)
  | t + 1 => if sBetter up (f (t + 1)) (sPick up f t).1 = true then (f (t + 1), t + 1) else sPick up f t
def sDu (D : xD) (i j x : Nat) : Nat → Bool → (Nat → Nat) → Nat
  | 0, _, g => g x
  | m + 1, up, g => (sPick up (fun t => sDu D i j x m (!up) (sTune D (if up = true then i else j) t g).1) 2).1
def sDuF (D : xD) (i j x : Nat) (n : Nat) (g : Nat → Nat) : Nat := match n with
  | 0 => 0
  | m + 1 => (sPick true (fun t => sDu D i j x m false (sTune D i t g).1) 2).2
theorem sPick_val (up : Bool) (f : Nat → Nat) (N : Nat) (hf : ∀ t, f t ≤ N) : ∀ t, (sPick up f t).1 ≤ N
  | 0 => hf 0
  | t + 1 => by
    rw [sPick]
    split
    · exact hf _
    · exact sPick_val up f N hf t
theorem sDu_le (D : xD) (i j : Nat) {x : Nat} (hx : x < dn D) : ∀ (m : Nat) (up : Bool) (g : Nat → Nat), sm g (dn D) ≤ 90 → sDu D i j x m up g ≤ 90
  | 0, _, g, hs => Nat.le_trans (sm_le hx) hs
  | m + 1, up, g, hs => sPick_val _ _ 90 (fun t => sDu_le D i j hx m _ _ (by rw [sTune_sm]; exact hs)) 2
theorem rem2 {a : Nat} (h : a < 2147483648) : nI a - nI a / 2 * 2 = nI (a % 2) := pk_rem h (by decide) (by decide)
/-- what a turn leaves as it was -/
def xBT (k : Nat) (v v1 : xS) : Prop := v1.2 = v.2 ∧ (∀ a, a ≠ 70 → (a ≤ 74 + k ∨ 80 < a) → v1.1 a = v.1 a) ∧ (∀ f, f ≠ 7 → v1.1 70 f = v.1 70 f) ∧ (k ≠ 0 → v1.1 70 = v.1 70)
theorem xBT.rf (k : Nat) (v : xS) : xBT k v v := ⟨rfl, fun _ _ _ => rfl, fun _ _ => rfl, fun _ => rfl⟩
theorem xBT.trans {k : Nat} {v v1 v2 : xS} (h : xBT k v v1) (h' : xBT k v1 v2) : xBT k v v2 :=
  ⟨h'.1.trans h.1, fun a h1 h2 => (h'.2.1 a h1 h2).trans (h.2.1 a h1 h2), fun f hf => (h'.2.2.1 f hf).trans (h.2.2.1 f hf), fun hk => (h'.2.2.2 hk).trans (h.2.2.2 hk)⟩
theorem xBT.down {k : Nat} {v v1 : xS} (h : xBT (k + 1) v v1) : xBT k v v1 :=
  ⟨h.1, fun a h1 h2 => h.2.1 a h1 (by omega), h.2.2.1, fun _ => h.2.2.2 (by omega)⟩
theorem xBT.row {k a : Nat} {v v1 : xS} (h : Same [a] v v1) (ha : 74 + k < a) (ha2 : a ≤ 80) : xBT k v v1 :=
  ⟨h.1, fun b h1 h2 => Same1 h (by omega), fun f _ => by rw [Same1 h (by omega)], fun _ => Same1 h (by omega)⟩
/-- behind a deeper turn: the tune t came to r8 -/
def xBc (A : Int32 → xS → Prop) (kk tt l3 old r8 : Int32) (v7 : xS) : Prop :=
  (tt = 0 → ((¬ kk = 0 → A r8 v7) ∧ (kk = 0 → (∀ v9 : xS, v9 = wV v7 70 7 tt → A r8 v9)))) ∧
  (¬ tt = 0 → ((l3 = 0 → ((old ≤ r8 → A old v7) ∧ (¬ old ≤ r8 → ((¬ kk = 0 → A r8 v7) ∧ (kk = 0 → (∀ v10 : xS, v10 = wV v7 70 7 tt → A r8 v10)))))) ∧
    (¬ l3 = 0 → ((r8 ≤ old → A old v7) ∧ (¬ r8 ≤ old → ((¬ kk = 0 → A r8 v7) ∧ (kk = 0 → (∀ v11 : xS, v11 = wV v7 70 7 tt → A r8 v11))))))))
section DUEL
variable {G : xG} {d : Nat} {z : xZ} {D : xD}
theorem ok_bestTurn (B : Base z) (hD : DB D) {i j x N : Nat} (hi : i < db D) (hj : j < db D) (hx : x < dn D) (hN : N ≤ 6) : ∀ (m k : Nat) (v : xS) (g : Nat → Nat) (Q : Int32 → xS → Prop), k + m = N → LC v D → Gd v (74 + k) D g → sm g (dn D) ≤ 90 → v.1 70 4 = nI i → v.1 70 5 = nI j → v.1 70 6 = nI x →
    (∀ v1, xBT k v v1 → (k = 0 → (m = 0 → v1.1 70 7 = v.1 70 7) ∧ (0 < m → v1.1 70 7 = nI (sDuF D i j x m g))) → Q (nI (sDu D i j x m (decide (k % 2 = 0)) g)) v1) → oX0_bestTurn G (d + 4 + m) [.ref 70, .int (nI k), .int (nI N)] z v Q := by
  have hn := hD.1
  have vx := vpN (j := x) (n := 10) (by omega) (by omega)
  intro m
  induction m with
  | zero =>
    intro k v g Q hk hL hG hs e4 e5 e6 hq
    refine vc_X0_bestTurn B (bt (by rw [i32le, nIi (by omega), nIi (by omega)]; omega) ⟨vpN (by omega) (by omega), ?_⟩)
    rw [e6, clN (by omega), clN (by omega), hG x hx]
    exact ⟨vx, hq v (xBT.rf _ _) (fun _ => ⟨fun _ => rfl, fun h => absurd h (Nat.lt_irrefl 0)⟩)⟩
  | succ m ih =>
    intro k v g Q hk hL hG hs e4 e5 e6 hq
    obtain ⟨up, hup⟩ : ∃ up : Bool, up = decide (k % 2 = 0) := ⟨_, rfl⟩
    rw [← hup] at hq
    obtain ⟨bn, hbn⟩ : ∃ bn : Nat, bn = if up = true then i else j := ⟨_, rfl⟩
    have hbn1 : bn < db D := by rw [hbn]; split <;> assumption
    obtain ⟨f, hf⟩ : ∃ f : Nat → Nat, f = fun t => sDu D i j x m (!up) (sTune D bn t g).1 := ⟨_, rfl⟩
    have hfle : ∀ t, f t ≤ 90 := fun t => by rw [hf]; exact sDu_le D i j hx m _ _ (by rw [sTune_sm]; exact hs)
    have hple := fun t => sPick_val up f 90 hfle t
    have hupn : decide ((k + 1) % 2 = 0) = !up := by
      rw [hup]
      by_cases h : k % 2 = 0
      · have h2 : ¬ (k + 1) % 2 = 0 := by omega
        simp [h, h2]
      · have h2 : (k + 1) % 2 = 0 := by omega
        simp [h, h2]
    obtain ⟨l3, hl3⟩ : ∃ l3 : Int32, l3 = if up = true then 1 else 0 := ⟨_, rfl⟩
    have ek1 : nI k + 1 = nI (k + 1) := nI_1 k
    have vk := vpN (j := k) (n := 7) (by omega) (by omega)
    have vk1 := vpN (j := k + 1) (n := 7) (by omega) (by omega)
    have hq1 : ∀ v1, xBT k v v1 → (k = 0 → v1.1 70 7 = nI (sPick up f 2).2) → Q (nI (sPick up f 2).1) v1 := by
      intro v1 h1 h2
      have := hq v1 h1
      rw [sDu, ← hbn, ← hf] at this
      refine this (fun k0 => ⟨fun q => absurd q (Nat.succ_ne_zero _), fun _ => ?_⟩)
      have u1 : up = true := by rw [hup, k0]; rfl
      rw [h2 k0, sDuF, hf, hbn, u1]
      rfl
    have loop : ∀ (c t : Nat) (v1 : xS) (old : Int32), t + c = 3 → xBT k v v1 → (0 < t → old = nI (sPick up f (t - 1)).1) → (k = 0 → 0 < t → v1.1 70 7 = nI (sPick up f (t - 1)).2) → aX0_bestTurn G (d + 4 + (m + 1)) 41 [some (.ref 70), some (.int (nI k)), some (.int (nI N)), some (.int l3), some (.int old), some (.int (nI t)), none] [] z v1 Q := by
      intro c
      induction c with
      | zero =>
        intro t v1 old ht hb ho h7
        have et : t = 3 := by omega
        subst et
        refine vc_X0_bestTurn_41 B (bt (by decide) ?_)
        rw [ho (by decide)]
        exact hq1 v1 hb (fun k0 => h7 k0 (by decide))
      | succ c ihc =>
        intro t v1 old ht hb ho h7
        have et1 : nI t + 1 = nI (t + 1) := nI_1 t
        -- behind the deeper turn
        have cont : ∀ v7 : xS, xBT k v v7 → (k = 0 → 0 < t → v7.1 70 7 = nI (sPick up f (t - 1)).2) → xBc (fun b w => aX0_bestTurn G (d + 4 + (m + 1)) 41 [some (.ref 70), some (.int (nI k)), some (.int (nI N)), some (.int l3), some (.int b), some (.int (nI t + 1)), none] [] z w Q) (nI k) (nI t) l3 old (nI (f t)) v7 := by
          intro v7 hb7 h77
          unfold xBc
          dsimp only
          rw [et1]
          have hft := hfle t
          -- t is taken
          have take : (sPick up f t = (f t, t)) → ((¬ nI k = 0 → aX0_bestTurn G (d + 4 + (m + 1)) 41 [some (.ref 70), some (.int (nI k)), some (.int (nI N)), some (.int l3), some (.int (nI (f t))), some (.int (nI (t + 1))), none] [] z v7 Q) ∧ (nI k = 0 → (∀ v9 : xS, v9 = wV v7 70 7 (nI t) → aX0_bestTurn G (d + 4 + (m + 1)) 41 [some (.ref 70), some (.int (nI k)), some (.int (nI N)), some (.int l3), some (.int (nI (f t))), some (.int (nI (t + 1))), none] [] z v9 Q))) := by
            intro hp
            refine ⟨fun ck => ihc (t + 1) v7 _ (by omega) hb7 (fun _ => by rw [Nat.add_sub_cancel, hp]) (fun k0 => absurd (by rw [k0]; rfl) ck), fun ck v9 e9 => ?_⟩
            have k0 : k = 0 := nIinj (b := 0) (by omega) (by omega) ck
            subst e9
            refine ihc (t + 1) _ _ (by omega) (hb7.trans ⟨rfl, fun a h1 _ => wV_ne h1, fun f hf => wV_other _ _ _ _ _ hf, fun q => absurd k0 q⟩) (fun _ => by rw [Nat.add_sub_cancel, hp]) (fun _ _ => ?_)
            rw [Nat.add_sub_cancel, hp, wV_at]
          have stay : sPick up f t = sPick up f (t - 1) → 0 < t → aX0_bestTurn G (d + 4 + (m + 1)) 41 [some (.ref 70), some (.int (nI k)), some (.int (nI N)), some (.int l3), some (.int old), some (.int (nI (t + 1))), none] [] z v7 Q := by
            intro hp h0
            refine ihc (t + 1) v7 old (by omega) hb7 (fun _ => ?_) (fun k0 _ => ?_)
            · rw [Nat.add_sub_cancel, hp]; exact ho h0
            · rw [Nat.add_sub_cancel, hp]; exact h77 k0 h0
          refine ⟨fun c0 => take ?_, fun c0 => ?_⟩
          · have t0 : t = 0 := nIinj (b := 0) (by omega) (by omega) c0
            rw [t0]; rfl
          · have t0 : t ≠ 0 := fun q => c0 (by rw [q]; rfl)
            obtain ⟨s, rfl⟩ : ∃ s, t = s + 1 := ⟨t - 1, by omega⟩
            have hold := ho (by omega)
            rw [Nat.add_sub_cancel] at hold stay
            have hps := hple s
            have e2 : sPick up f (s + 1) = if sBetter up (f (s + 1)) (sPick up f s).1 = true then (f (s + 1), s + 1) else sPick up f s := rfl
            refine ⟨fun u0 => ⟨fun c1 => stay ?_ (by omega), fun c1 => take ?_⟩, fun u1 => ⟨fun c1 => stay ?_ (by omega), fun c1 => take ?_⟩⟩
            · have hu : up = false := by
                cases hh : up
                · rfl
                · rw [hl3, hh] at u0; exact absurd u0 (by decide)
              rw [hold, i32le, nIi (by omega), nIi (by omega)] at c1
              rw [e2, if_neg (by rw [hu]; simp [sBetter]; rw [← hu]; omega)]
            · have hu : up = false := by
                cases hh : up
                · rfl
                · rw [hl3, hh] at u0; exact absurd u0 (by decide)
              rw [hold, i32le, nIi (by omega), nIi (by omega)] at c1
              rw [e2, if_pos (by rw [hu]; simp [sBetter]; rw [← hu]; omega)]
            · have hu : up = true := by
                cases hh : up
                · rw [hl3, hh] at u1; exact absurd rfl u1
                · rfl
              rw [hold, i32le, nIi (by omega), nIi (by omega)] at c1
              rw [e2, if_neg (by rw [hu]; simp [sBetter]; rw [← hu]; omega)]
            · have hu : up = true := by
                cases hh : up
                · rw [hl3, hh] at u1; exact absurd rfl u1
                · rfl
              rw [hold, i32le, nIi (by omega), nIi (by omega)] at c1
              rw [e2, if_pos (by rw [hu]; simp [sBetter]; rw [← hu]; omega)]
        refine vc_X0_bestTurn_41 B (bf (by rw [i32le, nIi (by omega)]; show ¬ (3 : Int32).toInt ≤ _; rw [show (3 : Int32).toInt = 3 by decide]; omega) ?_)
        rw [ek1]
        refine ⟨vk, vk1, fun v3 e3 => ⟨vk1, ?_⟩⟩
        rw [clN (by omega), clN (by omega)] at e3
        rw [clN (by omega)]
        have hG1 : Gd v1 (74 + k) D g := fun y hy => by rw [hb.2.1 _ (by omega) (by omega)]; exact hG y hy
        have hG3 : Gd v3 (74 + (k + 1)) D g := by rw [e3]; exact hG1.cpy hD
        have hS3 : Same [74 + (k + 1)] v1 v3 := by rw [e3]; exact (Same.rf _ _).wA (by simp)
        have hb3 : xBT k v v3 := hb.trans (xBT.row hS3 (by omega) (by omega))
        have hLk : ∀ w, xBT k v w → LC w D := fun w hw => by
          obtain ⟨a1, a2, a3, a4⟩ := hL
          refine ⟨?_, ?_, ?_, fun q hq => ?_⟩
          · rw [hw.2.1 30 (by decide) (by omega)]; exact a1
          · rw [hw.2.1 30 (by decide) (by omega)]; exact a2
          · rw [hw.2.1 30 (by decide) (by omega)]; exact a3
          · rw [hw.2.1 34 (by decide) (by omega), hw.2.1 32 (by decide) (by omega), hw.2.1 33 (by decide) (by omega)]; exact a4 q hq
        have deep : oX1_playTune G (d + 4 + m) [.ref 30, .ref (74 + (k + 1)), .int (nI bn), .int (nI t)] z v3 (fun _ v5 => oX0_bestTurn G (d + 4 + m) [.ref 70, .int (nI (k + 1)), .int (nI N)] z v5 (fun r8 v7 => xBc (fun b w => aX0_bestTurn G (d + 4 + (m + 1)) 41 [some (.ref 70), some (.int (nI k)), some (.int (nI N)), some (.int l3), some (.int b), some (.int (nI t + 1)), none] [] z w Q) (nI k) (nI t) l3 old r8 v7)) := by
          have edp : d + 4 + m = d + 1 + m + 3 := by omega
          refine edp ▸ ok_playTune (G := G) (d := d + 1 + m) B (hLk v3 hb3) hD (xgrT B (k := k + 1) (by omega)) hG3 hs hbn1 (by omega : t < 3) (fun v5 hS5 hG5 => ?_)
          rw [← edp]
          have hb5 : xBT k v v5 := hb3.trans (xBT.row hS5 (by omega) (by omega))
          refine ih (k + 1) v5 _ _ (by omega) (hLk v5 hb5) hG5 (by rw [sTune_sm]; exact hs) (by rw [hb5.2.2.1 4 (by decide)]; exact e4) (by rw [hb5.2.2.1 5 (by decide)]; exact e5) (by rw [hb5.2.2.1 6 (by decide)]; exact e6) (fun v7 hb7 _ => ?_)
          have hb7' : xBT k v v7 := hb5.trans hb7.down
          have e9 : sDu D i j x m (decide ((k + 1) % 2 = 0)) (sTune D bn t g).1 = f t := by rw [hf, hupn]
          rw [e9]
          refine cont v7 hb7' (fun k0 h0 => ?_)
          have e70 : v7.1 70 = v1.1 70 := by rw [hb7.2.2.2 (by omega), Same1 hS5 (by omega), Same1 hS3 (by omega)]
          rw [e70]
          exact h7 k0 h0
        have ebn4 : up = true → v3.1 70 4 = nI bn := fun hu => by rw [hb3.2.2.1 4 (by decide), e4, hbn, if_pos hu]
        have ebn5 : up = false → v3.1 70 5 = nI bn := fun hu => by rw [hb3.2.2.1 5 (by decide), e5, hbn, if_neg (by rw [hu]; decide)]
        refine ⟨fun u0 => ?_, fun u1 => ?_⟩
        · have hu : up = false := by
            cases hh : up
            · rfl
            · rw [hl3, hh] at u0; exact absurd u0 (by decide)
          rw [ebn5 hu]
          exact deep
        · have hu : up = true := by
            cases hh : up
            · rw [hl3, hh] at u1; exact absurd rfl u1
            · rfl
          rw [ebn4 hu]
          exact deep
    have start : aX0_bestTurn G (d + 4 + (m + 1)) 41 [some (.ref 70), some (.int (nI k)), some (.int (nI N)), some (.int l3), some (.int 0), some (.int 0), none] [] z v Q :=
      loop 3 0 v 0 rfl (xBT.rf _ _) (fun h => absurd h (Nat.lt_irrefl 0)) (fun _ h => absurd h (Nat.lt_irrefl 0))
    have hk2 := rem2 (a := k) (by omega)
    refine vc_X0_bestTurn B (bf (by rw [i32le, nIi (by omega), nIi (by omega)]; omega) (bt (by rw [i32lt, nIi (by omega)]; show _ < (6 : Int32).toInt; rw [show (6 : Int32).toInt = 6 by decide]; omega) ?_))
    rw [hk2]
    refine ⟨fun c0 => ?_, fun c0 => ?_⟩
    · have : l3 = 0 := by rw [hl3, if_neg (by rw [hup]; intro q; exact c0 (by rw [of_decide_eq_true q]; rfl))]
      rw [this] at start
      exact start
    · have : l3 = 1 := by rw [hl3, if_pos (by rw [hup]; exact decide_eq_true (nIinj (b := 0) (by omega) (by omega) c0))]
      rw [this] at start
      exact start
theorem ok_duel {v : xS} {g : Nat → Nat} {Q : Int32 → xS → Prop} (B : Base z) (hD : DB D) {i j x N : Nat} (hi : i < db D) (hj : j < db D) (hx : x < dn D) (hN : N ≤ 6) (hL : LC v D) (hG : Gd v 31 D g) (hs : sm g (dn D) ≤ 90) (hq : ∀ v1, Same [70, 74, 75, 76, 77, 78, 79, 80] v v1 → v1.1 70 7 = nI (sDuF D i j x N g) → Q (nI (sDu D i j x N true g)) v1) : oX0_duel G (d + 4 + N + 1) [.ref 70, .int (nI i), .int (nI j), .int (nI x), .int (nI N)] z v Q := by
  refine vc_X0_duel B (fun v1 e1 v2 e2 v3 e3 v4 e4 v5 e5 => ?_)
  have h4 : Same [70] v v4 := by rw [e4, e3, e2, e1]; exact (((((Same.rf _ _).wV (by simp)).wV (by simp)).wV (by simp)).wV (by simp))
  have h5 : Same [74] v4 v5 := by rw [e5]; exact (Same.rf _ _).wA (by simp)
  have hS5 : Same [70, 74, 75, 76, 77, 78, 79, 80] v v5 := (h4.mono (by simp)).trans (h5.mono (by simp))
  have f5 : ∀ f, v5.1 70 f = v4.1 70 f := fun f => by rw [Same1 h5 (by decide)]
  have hL5 : LC v5 D := hL.keep hS5 (by decide) (by decide) (by decide) (by decide)
  have hG4 : Gd v4 31 D g := hG.same h4 (by decide)
  have hG5 : Gd v5 (74 + 0) D g := by rw [e5]; exact hG4.cpy hD
  have w4 : v5.1 70 4 = nI i := by rw [f5, e4, wV_other _ _ _ _ _ (by decide), e3, wV_other _ _ _ _ _ (by decide), e2, wV_other _ _ _ _ _ (by decide), e1, wV_at]
  have w5 : v5.1 70 5 = nI j := by rw [f5, e4, wV_other _ _ _ _ _ (by decide), e3, wV_other _ _ _ _ _ (by decide), e2, wV_at]
  have w6 : v5.1 70 6 = nI x := by rw [f5, e4, wV_other _ _ _ _ _ (by decide), e3, wV_at]
  have w7 : v5.1 70 7 = 0 := by rw [f5, e4, wV_at]
  refine ok_bestTurn B hD hi hj hx hN N 0 v5 g _ (by omega) hL5 hG5 hs w4 w5 w6 (fun v6 hb h7 => ?_)
  have hS6 : Same [70, 74, 75, 76, 77, 78, 79, 80] v v6 := by
    refine ⟨hb.1.trans hS5.1, fun a ha => ?_⟩
    rw [hb.2.1 a (by simp at ha; omega) (by simp at ha; omega)]
    exact hS5.2 a ha
  refine hq v6 hS6 ?_
  by_cases hN0 : N = 0
  · rw [(h7 rfl).1 hN0, w7, hN0]; rfl
  · exact (h7 rfl).2 (by omega)
end DUEL
