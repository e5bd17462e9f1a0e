/-! the reference: rows, refusals, what was played, an evening truly, the common divisor -/
def met (v : xS) (f : Nat) : xS := wV (wV v 200 0 (nI f)) 201 f (v.1 201 f + 1)
def sRw (rw : Nat → Int32) (D : xD) (g : Nat → Nat) : Bool := decide (∀ x, x < dn D → nI (g x) = rw x)
def sCnt (P : Nat → Bool) : Nat → Nat
  | 0 => 0
  | c + 1 => sCnt P c + if P c = true then 1 else 0
def sFst (P : Nat → Bool) : Nat → Int32
  | 0 => -9
  | c + 1 => if sCnt P c = 0 ∧ P c = true then nI c else sFst P c
def sMsk (P : Nat → Bool) (i : Nat) : Nat → Int32
  | 0 => 0
  | c + 1 => if P c = true then sMsk P i c ||| ((1 : Int32) <<< (nI (tn c i) &&& 31)) else sMsk P i c
theorem sCnt_le (P : Nat → Bool) : ∀ c, sCnt P c ≤ c
  | 0 => Nat.le_refl _
  | c + 1 => by
    have := sCnt_le P c
    rw [sCnt]
    split <;> omega
section MROWS
variable {G : xG} {d : Nat} {z : xZ} {v : xS} {D : xD} {g : Nat → Nat}
theorem e40 (r k : Nat) : (40 : Int32) * nI r + nI k = nI (40 * r + k) := by rw [show (40 : Int32) = nI 40 from rfl, pk_mul, nI_add]
theorem om_rowAt {Q : Int32 → xS → Prop} (B : Base z) {r k : Nat} (hr : r < 6) (hk : k < 40) (hq : Q (v.1 204 (40 * r + k)) v) : oX6_rowAt G (d + 1) [.ref 200, .int (nI r), .int (nI k)] z v Q := by
  refine vc_X6_rowAt B ?_
  rw [e40]
  refine ⟨vpN (by omega) (by omega), ?_⟩
  rw [clN (by omega)]
  exact hq
theorem om_setRow {Q : xS → Prop} (B : Base z) {r k : Nat} (hr : r < 6) (hk : k < 40) {x : Int32} (hq : Q (wV v 204 (40 * r + k) x)) : oX6_setRow G (d + 1) [.ref 200, .int (nI r), .int (nI k), .int x] z v Q := by
  refine vc_X6_setRow B ?_
  rw [e40]
  refine ⟨vpN (by omega) (by omega), fun v2 e2 => ?_⟩
  rw [clN (by omega)] at e2
  subst e2
  exact hq
theorem om_askedRow {Q : Int32 → xS → Prop} (B : Base z) {x : Int32} (h0 : ¬ inR x 6 → Q (-1) v) (h1 : ∀ r, r < 6 → x = nI r → (v.1 203 r).toInt < 0 → Q (-3) (met v 1)) (h2 : ∀ r, r < 6 → x = nI r → 0 ≤ (v.1 203 r).toInt → Q 0 v) : oX6_askedRow G (d + 3) [.ref 200, .int x] z v Q := by
  refine vc_X6_askedRow B (om_isRow B (fun h => nb1 ?_) (fun h => nb0 (h0 h)))
  obtain ⟨r, hr, e, _⟩ := inR_of h
  rw [e, clN (by omega)]
  refine ⟨vpN hr (by omega), fun c => h2 r hr e ?_, fun c => om_meet (f := 1) B (by decide) (h1 r hr e ?_)⟩
  · rw [i32le, i32_0] at c; exact c
  · rw [i32le, i32_0] at c; omega
theorem om_askedText {Q : Int32 → xS → Prop} (B : Base z) {x : Int32} (h0 : ¬ inR x 4 → Q (-1) v) (h1 : ∀ r, r < 4 → x = nI r → (v.1 206 r).toInt < 0 → Q (-3) (met v 1)) (h2 : ∀ r, r < 4 → x = nI r → 0 ≤ (v.1 206 r).toInt → Q 0 v) : oX6_askedText G (d + 3) [.ref 200, .int x] z v Q := by
  refine vc_X6_askedText B (om_isText B (fun h => nb1 ?_) (fun h => nb0 (h0 h)))
  obtain ⟨r, hr, e, _⟩ := inR_of h
  rw [e, clN (by omega)]
  refine ⟨vpN hr (by omega), fun c => h2 r hr e ?_, fun c => om_meet (f := 1) B (by decide) (h1 r hr e ?_)⟩
  · rw [i32le, i32_0] at c; exact c
  · rw [i32le, i32_0] at c; omega
theorem om_askedHeights {Q : Int32 → xS → Prop} (B : Base z) (hL : LM v D) (hD : DB D) {x : Int32} (h0 : ¬ inR x 6 → Q (-1) v) (h1 : ∀ r, r < 6 → x = nI r → (v.1 203 r).toInt < 0 → Q (-3) (met v 1)) (h2 : ∀ r, r < 6 → x = nI r → 0 ≤ (v.1 203 r).toInt → v.1 203 r ≠ nI (dn D) → Q (-3) (met v 5)) (h3 : ∀ r, r < 6 → x = nI r → v.1 203 r = nI (dn D) → Q 0 v) : oX6_askedHeights G (d + 4) [.ref 200, .int x] z v Q := by
  refine vc_X6_askedHeights B (om_askedRow B (fun h => bf (by decide) (h0 h)) (fun r hr e h => bf (by decide) (h1 r hr e h)) (fun r hr e h => bt (by decide) ?_))
  rw [hL.1, e, clN (by omega)]
  exact ⟨vpN hr (by omega), fun c => h3 r hr e c, fun c => om_meet (f := 5) B (by decide) (h2 r hr e h c)⟩
theorem om_askedPlayed {Q : Int32 → xS → Prop} (B : Base z) (hL : LM v D) (hD : DB D) {x : Int32} (h0 : ¬ inR x 6 → Q (-1) v) (h4 : inR x 6 → dn D = 0 → Q (-4) v) (h1 : ∀ r, r < 6 → x = nI r → dn D ≠ 0 → (v.1 203 r).toInt < 0 → Q (-3) (met v 1)) (h2 : ∀ r, r < 6 → x = nI r → dn D ≠ 0 → 0 ≤ (v.1 203 r).toInt → v.1 203 r ≠ nI (dn D) → Q (-3) (met v 5)) (h3 : ∀ r, r < 6 → x = nI r → dn D ≠ 0 → v.1 203 r = nI (dn D) → Q 0 v) : oX6_askedPlayed G (d + 5) [.ref 200, .int x] z v Q := by
  have hn := hD.1
  refine vc_X6_askedPlayed B (om_isRow B (fun h => nb1 ⟨fun c => ?_, fun c => h4 h ?_⟩) (fun h => nb0 (h0 h)))
  · have hn0 : dn D ≠ 0 := fun q => c (by rw [hL.1, q]; rfl)
    exact om_askedHeights B hL hD (fun h => absurd ‹_› h) (fun r hr e => h1 r hr e hn0) (fun r hr e => h2 r hr e hn0) (fun r hr e => h3 r hr e hn0)
  · rw [hL.1] at c; exact nIinj (b := 0) (by omega) (by omega) c
theorem om_row {Q : Int32 → xS → Prop} (B : Base z) {x y : Int32} (h0 : ¬ (inR x 6 ∧ y.toInt ≤ 40) → Q (-1) v) (h1 : ∀ r, r < 6 → x = nI r → y.toInt < 0 → Q (-3) (met v 5)) (h2 : ∀ r m, r < 6 → m ≤ 40 → x = nI r → y = nI m → ∀ v1, Same [203, 204] v v1 → v1.1 203 = upd (v.1 203) r (nI m) → (∀ k, k < 40 → v1.1 204 (40 * r + k) = 0) → (∀ j, (j < 40 * r ∨ 40 * r + 40 ≤ j) → v1.1 204 j = v.1 204 j) → Q (nI m) v1) : oX6_row G (d + 3) [.ref 200, .int x, .int y] z v Q := by
  refine vc_X6_row B (om_isRow B (fun h => br1 ⟨fun c => ?_, fun c => h0 ?_⟩) (fun h => br0 (h0 (fun q => h q.1))))
  · obtain ⟨r, hr, e, _⟩ := inR_of h
    refine ⟨fun c2 => ?_, fun c2 => om_meet (f := 5) B (by decide) (h1 r hr e ?_)⟩
    · rw [i32le, i32_0] at c2
      rw [i32le, i32_40] at c
      obtain ⟨m, e2, e3, _⟩ := i32nat c2
      rw [e, e2, clN (by omega)]
      refine ⟨vpN hr (by omega), fun v4 e4 => ?_⟩
      have loop : ∀ (c k : Nat) (v1 : xS), k + c = 40 → Same [203, 204] v v1 → v1.1 203 = upd (v.1 203) r (nI m) → (∀ j, j < k → v1.1 204 (40 * r + j) = 0) → (∀ j, (j < 40 * r ∨ 40 * r + 40 ≤ j) → v1.1 204 j = v.1 204 j) → aX6_row G (d + 3) 34 [some (.ref 200), some (.int (nI r)), some (.int (nI m)), some (.int (nI k))] [] z v1 Q := by
        intro c
        induction c with
        | zero =>
          intro k v1 hk hS a1 a2 a3
          have : k = 40 := by omega
          subst this
          exact vc_X6_row_34 B (bt (by decide) (h2 r m hr (by omega) e e2 v1 hS a1 a2 a3))
        | succ c ih =>
          intro k v1 hk hS a1 a2 a3
          refine vc_X6_row_34 B (bf (by rw [i32le, i32_40, nIi (by omega)]; omega) (om_setRow B hr (by omega) ?_))
          rw [nI_1]
          refine ih (k + 1) _ (by omega) (hS.wV (by simp)) (by rw [wV_ne (by decide)]; exact a1) (fun j hj => ?_) (fun j hj => ?_)
          · by_cases hjk : j = k
            · rw [hjk, wV_at]
            · rw [wV_other _ _ _ _ _ (by omega)]; exact a2 j (by omega)
          · rw [wV_other _ _ _ _ _ (by omega)]; exact a3 j hj
      subst e4
      exact loop 40 0 _ rfl ((Same.rf _ _).wV (by simp)) wV_self (fun j h => absurd h (Nat.not_lt_zero _)) (fun j _ => by rw [wV_ne (by decide)])
    · rw [i32le, i32_0] at c2; omega
  · rw [i32le, i32_40] at c; intro q; exact c q.2
theorem om_layBest {Q : xS → Prop} (B : Base z) {r n : Nat} (hr : r < 6) (hn : n ≤ 3) (hq : ∀ v1, Same [203, 204] v v1 → v1.1 203 = upd (v.1 203) r (nI n) → (∀ k, k < n → v1.1 204 (40 * r + k) = v.1 232 k) → (∀ j, (j < 40 * r ∨ 40 * r + 40 ≤ j) → v1.1 204 j = v.1 204 j) → Q v1) : oX6_layBest G (d + 4) [.ref 200, .int (nI r), .int (nI n)] z v Q := by
  refine vc_X6_layBest B (om_row B (fun h => absurd ⟨inR_nI hr (by omega), by rw [nIi (by omega)]; omega⟩ h) (fun _ _ _ h => by rw [nIi (by omega)] at h; omega) (fun r' m hr' hm e1 e2 v1 hS a1 a2 a3 => ?_))
  have er : r' = r := (nIinj (by omega) (by omega) e1).symm
  have em : m = n := (nIinj (by omega) (by omega) e2).symm
  subst er em
  have loop : ∀ (c k : Nat) (v2 : xS), k + c = m → Same [203, 204] v v2 → v2.1 203 = upd (v.1 203) r' (nI m) → (∀ j, j < k → v2.1 204 (40 * r' + j) = v.1 232 j) → (∀ j, (j < 40 * r' ∨ 40 * r' + 40 ≤ j) → v2.1 204 j = v.1 204 j) → aX6_layBest G (d + 4) 9 [some (.ref 200), some (.int (nI r')), some (.int (nI m)), some (.int (nI k))] [] z v2 Q := by
    intro c
    induction c with
    | zero =>
      intro k v2 hk hS a1 a2 a3
      have : k = m := by omega
      subst this
      exact vc_X6_layBest_9 B (bt (by rw [i32le]; omega) (hq v2 hS a1 a2 a3))
    | succ c ih =>
      intro k v2 hk hS a1 a2 a3
      refine vc_X6_layBest_9 B (bf (by rw [i32le, nIi (by omega), nIi (by omega)]; omega) ⟨vpN (by omega) (by omega), om_setRow B hr (by omega) ?_⟩)
      rw [nI_1, clN (by omega), hS.2 232 (by decide)]
      refine ih (k + 1) _ (by omega) (hS.wV (by simp)) (by rw [wV_ne (by decide)]; exact a1) (fun j hj => ?_) (fun j hj => ?_)
      · by_cases hjk : j = k
        · rw [hjk, wV_at]
        · rw [wV_other _ _ _ _ _ (by omega)]; exact a2 j (by omega)
      · rw [wV_other _ _ _ _ _ (by omega)]; exact a3 j hj
  exact loop m 0 v1 (by omega) hS a1 (fun j h => absurd h (Nat.not_lt_zero _)) a3
theorem om_isRowNow {Q : Int32 → xS → Prop} (B : Base z) (hL : LM v D) (hD : DB D) (hG : Gd v 210 D g) {r : Nat} (hr : r < 6) {rw : Nat → Int32} (hR : ∀ x, x < dn D → v.1 204 (40 * r + x) = rw x) (h1 : sRw rw D g = true → Q 1 v) (h0 : sRw rw D g = false → Q 0 v) : oX6_isRowNow G (d + 2) [.ref 200, .int (nI r)] z v Q := by
  have hn := hD.1
  have e : (v.1 200 8).toInt = dn D := by rw [hL.1]; exact nIi (by omega)
  have loop : ∀ (c x : Nat) (b : Bool), x ≤ dn D → dn D - x = c → (b = true ↔ ∀ y, y < x → nI (g y) = rw y) → aX6_isRowNow G (d + 2) 4 [some (.ref 200), some (.int (nI r)), some (.int (if b = true then 1 else 0)), some (.int (nI x))] [] z v Q := by
    intro c
    induction c with
    | zero =>
      intro x b hx hc hb
      have ex : x = dn D := by omega
      subst ex
      refine vc_X6_isRowNow_4 B (bt (by rw [i32le, e, nIi (by omega)]; omega) ?_)
      cases b
      · exact ⟨xbl_0, h0 (decide_eq_false (fun q => absurd (hb.mpr q) (by decide)))⟩
      · exact ⟨xbl_1, h1 (decide_eq_true (hb.mp rfl))⟩
    | succ c ih =>
      intro x b hx hc hb
      refine vc_X6_isRowNow_4 B (bf (by rw [i32le, e, nIi (by omega)]; omega) ?_)
      rw [nI_1]
      cases b
      · refine br0 (ih (x + 1) false (by omega) (by omega) ?_)
        refine ⟨fun q => absurd q (by decide), fun q => hb.mpr (fun y hy => q y (by omega))⟩
      · refine br1 ⟨vpN (by omega) (by omega), om_rowAt B hr (by omega) ?_⟩
        rw [clN (by omega), hG x (by omega), hR x (by omega)]
        refine ⟨fun c1 => ih (x + 1) false (by omega) (by omega) ?_, fun c1 => ih (x + 1) true (by omega) (by omega) ?_⟩
        · exact ⟨fun q => absurd q (by decide), fun q => absurd (q x (by omega)) c1⟩
        · refine ⟨fun _ y hy => ?_, fun _ => rfl⟩
          by_cases hyx : y = x
          · rw [hyx]; exact c1
          · exact hb.mp rfl y (by omega)
  exact vc_X6_isRowNow B (loop (dn D) 0 true (Nat.zero_le _) (by omega) ⟨fun _ y h => absurd h (Nat.not_lt_zero _), fun _ => rfl⟩)
/-- what setPlayed leaves as it was -/
def MSP (v v1 : xS) : Prop := v1.2 = v.2 ∧ (∀ a, a ∉ [200, 210, 214, 228, 240] → v1.1 a = v.1 a) ∧ ∀ f, f ≠ 38 → f ≠ 39 → v1.1 200 f = v.1 200 f
theorem MSP.rf (v : xS) : MSP v v := ⟨rfl, fun _ _ => rfl, fun _ _ _ => rfl⟩
theorem MSP.trans {v v1 v2 : xS} (h : MSP v v1) (h' : MSP v1 v2) : MSP v v2 := ⟨h'.1.trans h.1, fun a ha => (h'.2.1 a ha).trans (h.2.1 a ha), fun f a b => (h'.2.2 f a b).trans (h.2.2 f a b)⟩
theorem MSP.of {S : List Nat} {v v1 : xS} (h : Same S v v1) (h1 : 200 ∉ S) (h2 : ∀ a, a ∈ S → a ∈ [200, 210, 214, 228, 240]) : MSP v v1 := ⟨h.1, fun a ha => h.2 a (fun q => ha (h2 a q)), fun f _ _ => by rw [h.2 200 h1]⟩
theorem MSP.f {v v1 : xS} (h : MSP v v1) {f : Nat} {x : Int32} (hf : f = 38 ∨ f = 39) : MSP v (wV v1 200 f x) := ⟨h.1, fun a ha => by rw [wV_ne (by intro q; rw [q] at ha; exact ha (by decide))]; exact h.2.1 a ha, fun q a b => by rw [wV_other _ _ _ _ _ (by omega)]; exact h.2.2 q a b⟩
theorem LM.msp {v v1 : xS} {D : xD} (h : LM v D) (hs : MSP v v1) : LM v1 D := by
  obtain ⟨a, b, c, e⟩ := h
  refine ⟨?_, ?_, ?_, fun i hi => ?_⟩
  · rw [hs.2.2 8 (by decide) (by decide)]; exact a
  · rw [hs.2.2 9 (by decide) (by decide)]; exact b
  · rw [hs.2.2 15 (by decide) (by decide)]; exact c
  · rw [hs.2.1 211 (by decide), hs.2.1 212 (by decide), hs.2.1 213 (by decide)]; exact e i hi
theorem or0 (x : Int32) : x ||| 0 = x := Int32.or_zero
theorem om_setPlayed {Q : xS → Prop} (B : Base z) (hL : LM v D) (hD : DB D) (hG : Gd v 210 D g) (hs : sm g (dn D) ≤ 90) {r : Nat} (hr : r < 6) {rw : Nat → Int32} (hR : ∀ x, x < dn D → v.1 204 (40 * r + x) = rw x)
    {P : Nat → Bool} (hP : P = fun p => sRw rw D (eG D p g)) (hq : ∀ v1, MSP v v1 → Back v v1 → v1.1 200 38 = nI (sCnt P (3 ^ db D)) → v1.1 200 39 = sFst P (3 ^ db D) → (∀ i, i < db D → v1.1 240 i = sMsk P i (3 ^ db D)) → Q v1) : oX6_setPlayed G (d + 7) [.ref 200, .int (nI r)] z v Q := by
  have hb := hD.2.1
  have hp27 := pow3 hb
  have main : ∀ (c p : Nat) (v1 : xS), p + c = 3 ^ db D → MSP v v1 → Back v v1 → Noted v v1 228 0 → v1.1 200 38 = nI (sCnt P p) → v1.1 200 39 = sFst P p → (∀ i, i < db D → v1.1 240 i = sMsk P i p) → aX6_setPlayed G (d + 7) 37 [some (.ref 200), some (.int (nI r)), some (.int (nI p)), none, none] [] z v1 Q := by
    intro c
    induction c with
    | zero =>
      intro p v1 hp hM hBk hN h38 h39 h240
      have ep : p = 3 ^ db D := by omega
      subst ep
      exact vc_X6_setPlayed_37 B (om_programs B (hL.msp hM) hD (bt (by rw [i32le]; omega) (hq v1 hM hBk h38 h39 h240)))
    | succ c ihc =>
      intro p v1 hp hM hBk hN h38 h39 h240
      have hL1 := hL.msp hM
      refine vc_X6_setPlayed_37 B (om_programs B hL1 hD (bf (by rw [i32le, nIi (by omega), nIi (by omega)]; omega) ?_))
      refine om_passEvening B hL1 hD (hG.back hD hBk) hs (by omega) (fun v3 hS3 hG3 _ => ?_)
      have hM3 : MSP v v3 := hM.trans (MSP.of hS3 (by decide) (by simp))
      have hL3 := hL.msp hM3
      have hcnt := sCnt_le P p
      have hN3 : Noted v v3 228 0 := ⟨fun x hx => by rw [hS3.2 228 (by decide)]; exact hN.1 x hx, fun i hi => by rw [hS3.2 228 (by decide)]; exact hN.2 i hi⟩
      -- the tunes, behind the count
      have tunes : ∀ (l3 : Int32), (l3 = if P p = true then 1 else 0) → ∀ (c i : Nat) (w : xS), i + c = db D → MSP v w → Back v w → Noted v w 228 0 → w.1 200 38 = nI (sCnt P (p + 1)) → w.1 200 39 = sFst P (p + 1) → (∀ k, k < i → w.1 240 k = sMsk P k (p + 1)) → (∀ k, i ≤ k → k < db D → w.1 240 k = sMsk P k p) → aX6_setPlayed G (d + 7) 105 [some (.ref 200), some (.int (nI r)), some (.int (nI p)), some (.int l3), some (.int (nI i))] [] z w Q := by
        intro l3 hl3 c2
        induction c2 with
        | zero =>
          intro i w hi hMw hBw hNw a38 a39 a240 _
          have ei : i = db D := by omega
          subst ei
          refine vc_X6_setPlayed_105 B (bt (by rw [(hL.msp hMw).2.1, i32le]; omega) ?_)
          rw [nI_1]
          exact ihc (p + 1) w (by omega) hMw hBw hNw a38 a39 a240
        | succ c2 ih2 =>
          intro i w hi hMw hBw hNw a38 a39 a240 b240
          have vi := vpN (j := i) (n := 3) (by omega) (by omega)
          have go : ∀ w2 : xS, w2 = wV w 240 i (sMsk P i (p + 1)) → aX6_setPlayed G (d + 7) 105 [some (.ref 200), some (.int (nI r)), some (.int (nI p)), some (.int l3), some (.int (nI i + 1))] [] z w2 Q := by
            intro w2 e2
            have hS2 : Same [240] w w2 := by rw [e2]; exact (Same.rf _ _).wV (by simp)
            rw [nI_1]
            refine ih2 (i + 1) w2 (by omega) (hMw.trans (MSP.of hS2 (by decide) (by simp))) (hBw.trans ⟨fun x _ => by rw [Same1 hS2 (by decide)], fun x _ => by rw [Same1 hS2 (by decide)]⟩) ⟨fun x hx => by rw [Same1 hS2 (by decide)]; exact hNw.1 x hx, fun x hx => by rw [Same1 hS2 (by decide)]; exact hNw.2 x hx⟩ (by rw [Same1 hS2 (by decide)]; exact a38) (by rw [Same1 hS2 (by decide)]; exact a39) (fun k hk => ?_) (fun k hk hk2 => ?_)
            · rw [e2]
              by_cases hki : k = i
              · rw [hki, wV_at]
              · rw [wV_other _ _ _ _ _ hki]; exact a240 k (by omega)
            · rw [e2, wV_other _ _ _ _ _ (by omega)]; exact b240 k (by omega) hk2
          refine vc_X6_setPlayed_105 B (bf (by rw [(hL.msp hMw).2.1, i32le, nIi (by omega), nIi (by omega)]; omega) ⟨vi, fun c0 => ⟨vi, fun w2 e2 => go w2 ?_⟩, fun c0 => om_tuneOf B (by omega) (by omega) ⟨vi, fun w2 e2 => go w2 ?_⟩⟩)
          · have hPp : ¬ P p = true := fun q => by rw [hl3, if_pos q] at c0; exact absurd c0 (by decide)
            rw [e2, clN (by omega), or0, b240 i (Nat.le_refl _) (by omega), sMsk, if_neg hPp]
          · have hPp : P p = true := by
              by_cases q : P p = true
              · exact q
              · rw [hl3, if_neg q] at c0; exact absurd rfl c0
            rw [e2, clN (by omega), b240 i (Nat.le_refl _) (by omega), sMsk, if_pos hPp]
      have h204 : ∀ x, x < dn D → v3.1 204 (40 * r + x) = rw x := fun x hx => by rw [hM3.2.1 204 (by decide)]; exact hR x hx
      have back : ∀ (l3 : Int32), (l3 = if P p = true then 1 else 0) → ∀ v7, Same [210, 214] v3 v7 → Back v v7 → ∀ w, w = wV (wV v7 200 39 (sFst P (p + 1))) 200 38 (nI (sCnt P (p + 1))) → aX6_setPlayed G (d + 7) 105 [some (.ref 200), some (.int (nI r)), some (.int (nI p)), some (.int l3), some (.int 0)] [] z w Q := by
        intro l3 hl3 v7 hS7 hB7 w ew
        have hM7 : MSP v v7 := hM3.trans (MSP.of hS7 (by decide) (by simp))
        have k7 : ∀ a, a ≠ 200 → w.1 a = v7.1 a := fun a ha => by rw [ew, wV_ne ha, wV_ne ha]
        refine tunes l3 hl3 (db D) 0 w (by omega) (by rw [ew]; exact (hM7.f (Or.inr rfl)).f (Or.inl rfl)) ⟨fun x hx => by rw [k7 _ (by decide)]; exact hB7.1 x hx, fun x hx => by rw [k7 _ (by decide)]; exact hB7.2 x hx⟩ ⟨fun x hx => by rw [k7 _ (by decide), hS7.2 228 (by decide)]; exact hN3.1 x hx, fun x hx => by rw [k7 _ (by decide), hS7.2 228 (by decide)]; exact hN3.2 x hx⟩ (by rw [ew, wV_at]) (by rw [ew, wV_other _ _ _ _ _ (by decide), wV_at]) (fun k h => absurd h (Nat.not_lt_zero _)) (fun k _ hk => ?_)
        rw [k7 _ (by decide), hS7.2 240 (by decide), hS3.2 240 (by decide)]
        exact h240 k hk
      have f7 : ∀ v7, Same [210, 214] v3 v7 → v7.1 200 = v1.1 200 := fun v7 hS7 => by rw [hS7.2 200 (by decide), hS3.2 200 (by decide)]
      have hPp : P p = sRw rw D (eG D p g) := by rw [hP]
      have pp0 : ∀ x : Int32, x + 0 = x := fun x => Int32.add_zero x
      refine om_isRowNow B hL3 hD hG3 hr h204 (fun hh => om_comeBack B hN3 (fun v7 hS7 hB7 => ?_)) (fun hh => om_comeBack B hN3 (fun v7 hS7 hB7 => ?_))
      · have q : P p = true := hPp.trans hh
        refine br1 ⟨fun c1 v11 e11 => br1 (fun v13 e13 => ?_), fun c1 v14 e14 => br1 (fun v16 e16 => ?_)⟩
        · rw [f7 v7 hS7, h38] at c1
          have hc0 : ¬ sCnt P p = 0 := fun q => c1 (by rw [q]; rfl)
          refine back 1 (by rw [if_pos q]) v7 hS7 hB7 v13 ?_
          rw [e13, e11, wV_other _ _ _ _ _ (by decide), f7 v7 hS7, h38, h39, sFst, if_neg (fun q => hc0 q.1), sCnt, if_pos q, nI_1]
        · rw [f7 v7 hS7, h38] at c1
          have hc0 : sCnt P p = 0 := nIinj (b := 0) (by omega) (by omega) c1
          refine back 1 (by rw [if_pos q]) v7 hS7 hB7 v16 ?_
          rw [e16, e14, wV_other _ _ _ _ _ (by decide), f7 v7 hS7, h38, sFst, if_pos ⟨hc0, q⟩, sCnt, if_pos q, nI_1]
      · have q : ¬ P p = true := by rw [hPp, hh]; decide
        refine br0 (fun v8 e8 => br0 (fun v9 e9 => ?_))
        refine back 0 (by rw [if_neg q]) v7 hS7 hB7 v9 ?_
        rw [e9, e8, wV_other _ _ _ _ _ (by decide), f7 v7 hS7, h38, h39, sFst, if_neg (fun x => q x.2), sCnt, if_neg q, pp0, Nat.add_zero]
  refine vc_X6_setPlayed B (fun v1 e1 v2 e2 => ?_)
  have hM2 : MSP v v2 := by rw [e2, e1]; exact ((MSP.rf v).f (Or.inl rfl)).f (Or.inr rfl)
  have k2 : ∀ a, a ≠ 200 → v2.1 a = v.1 a := fun a ha => by rw [e2, e1, wV_ne ha, wV_ne ha]
  have init : ∀ (c i : Nat) (w : xS), i + c = 3 → Same [240] v2 w → (∀ k, k < i → w.1 240 k = 0) → aX6_setPlayed G (d + 7) 13 [some (.ref 200), some (.int (nI r)), some (.int (nI i)), none, none] [] z w Q := by
    intro c
    induction c with
    | zero =>
      intro i w hi hS h0
      have ei : i = 3 := by omega
      subst ei
      refine vc_X6_setPlayed_13 B (bt (by decide) (om_putAhead B (fun v3 hS3 hN3 => ?_)))
      have hSw : ∀ a, a ≠ 240 → a ≠ 200 → w.1 a = v.1 a := fun a h1 h2 => by rw [Same1 hS h1, k2 a h2]
      refine main (3 ^ db D) 0 v3 (by omega) ((hM2.trans (MSP.of hS (by decide) (by simp))).trans (MSP.of hS3 (by decide) (by simp))) ⟨fun x _ => by rw [Same1 hS3 (by decide), hSw _ (by decide) (by decide)], fun x _ => by rw [Same1 hS3 (by decide), hSw _ (by decide) (by decide)]⟩ ⟨fun x hx => by rw [hN3.1 x hx, hSw _ (by decide) (by decide)], fun x hx => by rw [hN3.2 x hx, hSw _ (by decide) (by decide)]⟩ ?_ ?_ (fun i hi => ?_)
      · rw [Same1 hS3 (by decide), Same1 hS (by decide), e2, wV_other _ _ _ _ _ (by decide), e1, wV_at]; rfl
      · rw [Same1 hS3 (by decide), Same1 hS (by decide), e2, wV_at]; rfl
      · rw [Same1 hS3 (by decide), h0 i (by omega)]; rfl
    | succ c ih =>
      intro i w hi hS h0
      refine vc_X6_setPlayed_13 B (bf (by rw [i32le, i32_3, nIi (by omega)]; omega) ⟨vpN (by omega) (by omega), fun w2 e2 => ?_⟩)
      rw [clN (by omega)] at e2
      rw [nI_1]
      refine ih (i + 1) w2 (by omega) (by rw [e2]; exact hS.wV (by simp)) (fun k hk => ?_)
      rw [e2]
      by_cases hki : k = i
      · rw [hki, wV_at]
      · rw [wV_other _ _ _ _ _ hki]; exact h0 k (by omega)
  exact init 3 0 v2 rfl (Same.rf _ _) (fun k h => absurd h (Nat.not_lt_zero _))
/-- an EVENING truly -/
theorem om_goEvening {Q : Int32 → xS → Prop} (B : Base z) (hL : LM v D) (hD : DB D) (hG : Gd v 210 D g) (hs : sm g (dn D) ≤ 90) {e p : Nat} (he : v.1 200 24 = nI e) (he2 : e < 60) (hp : p < 2147483648)
    (hq : ∀ v1, Same [200, 210, 214, 225, 226] v v1 → (∀ f, f ≠ 24 → v1.1 200 f = v.1 200 f) → v1.1 200 24 = nI (e + 1) → Gd v1 210 D (eG D p g) → (∀ i, i < db D → v1.1 214 i = v.1 214 i + nI (sMv D p g i)) → v1.1 225 = upd (v.1 225) e (nI p) → (∀ x, x < 10 → v1.1 226 (14 * e + x) = v.1 210 x) → (∀ i, i < 3 → v1.1 226 (14 * e + 10 + i) = v.1 214 i) → (∀ j, (j < 14 * e ∨ 14 * e + 13 ≤ j) → v1.1 226 j = v.1 226 j) → Q (nI (eT D p g)) v1) : oX6_goEvening G (d + 7) [.ref 200, .int (nI p)] z v Q := by
  have e14 : (14 : Int32) * nI e = nI (14 * e) := by rw [show (14 : Int32) = nI 14 from rfl, pk_mul]
  refine vc_X6_goEvening B ?_
  rw [he, e14]
  refine om_write B (bI_226 B) ⟨by decide, by decide⟩ (by decide) (by omega) (fun v1 hS1 h1 h2 h3 => ?_)
  rw [Same1 hS1 (by decide), he]
  refine ⟨vpN he2 (by omega), fun v3 e3 v4 e4 => ?_⟩
  rw [clN (by omega)] at e3
  have f3 : v3.1 200 = v.1 200 := by rw [e3, wV_ne (by decide), Same1 hS1 (by decide)]
  rw [f3, he, nI_1] at e4
  have hS4 : Same [200, 210, 214, 225, 226] v v4 := by rw [e4, e3]; exact ((hS1.mono (by simp)).wV (by simp)).wV (by simp)
  have k4 : ∀ a, a ≠ 200 → a ≠ 225 → a ≠ 226 → v4.1 a = v.1 a := fun a q1 q2 q3 => by rw [e4, wV_ne q1, e3, wV_ne q2, Same1 hS1 q3]
  have f4 : ∀ f, f ≠ 24 → v4.1 200 f = v.1 200 f := fun f hf => by rw [e4, wV_other _ _ _ _ _ hf, f3]
  have hL4 : LM v4 D := by
    obtain ⟨a, b, c, e'⟩ := hL
    refine ⟨?_, ?_, ?_, fun i hi => ?_⟩
    · rw [f4 8 (by decide)]; exact a
    · rw [f4 9 (by decide)]; exact b
    · rw [f4 15 (by decide)]; exact c
    · rw [k4 211 (by decide) (by decide) (by decide), k4 212 (by decide) (by decide) (by decide), k4 213 (by decide) (by decide) (by decide)]; exact e' i hi
  have hG4 : Gd v4 210 D g := fun x hx => by rw [k4 210 (by decide) (by decide) (by decide)]; exact hG x hx
  have e226 : v4.1 226 = v1.1 226 := by rw [e4, wV_ne (by decide), e3, wV_ne (by decide)]
  refine om_passEvening B hL4 hD hG4 hs hp (fun v5 hS5 hG5 h5 => ?_)
  refine hq v5 (hS4.trans (hS5.mono (by simp))) (fun f hf => by rw [hS5.2 200 (by decide)]; exact f4 f hf) (by rw [hS5.2 200 (by decide), e4, wV_at]) hG5 (fun i hi => ?_) ?_ (fun x hx => ?_) (fun i hi => ?_) (fun j hj => ?_)
  · rw [h5 i hi, k4 214 (by decide) (by decide) (by decide)]
  · rw [hS5.2 225 (by decide), e4, wV_ne (by decide), e3, wV_self, Same1 hS1 (by decide)]
  · rw [hS5.2 226 (by decide), e226]; exact h1 x hx
  · rw [hS5.2 226 (by decide), e226]; exact h2 i hi
  · rw [hS5.2 226 (by decide), e226]; exact h3 j hj
theorem om_divisor {Q : Int32 → xS → Prop} (B : Base z) {a b : Nat} (ha : a < 1000) (hb : b < 1000) (hq : Q (nI (Nat.gcd b a)) v) : oX6_divisor G (d + 1) [.int (nI a), .int (nI b)] z v Q := by
  have loop : ∀ (c x y : Nat), y ≤ c → x < 1000 → y < 1000 → Nat.gcd y x = Nat.gcd b a → aX6_divisor G (d + 1) 4 [some (.int (nI a)), some (.int (nI b)), some (.int (nI x)), some (.int (nI y)), none] [] z v Q := by
    intro c
    induction c with
    | zero =>
      intro x y hy hx hy2 hg
      have y0 : y = 0 := by omega
      subst y0
      rw [Nat.gcd_zero_left] at hg
      rw [← hg] at hq
      exact vc_X6_divisor_4 B (bt rfl hq)
    | succ c ih =>
      intro x y hy hx hy2 hg
      by_cases y0 : y = 0
      · subst y0
        rw [Nat.gcd_zero_left] at hg
        rw [← hg] at hq
        exact vc_X6_divisor_4 B (bt rfl hq)
      · have n0 : ¬ nI y = 0 := fun q => y0 (nIinj (b := 0) (by omega) (by omega) q)
        have hm := Nat.mod_lt x (show 0 < y by omega)
        refine vc_X6_divisor_4 B (bf n0 ⟨n0, ?_⟩)
        rw [show nI x - nI x / nI y * nI y = nI (x % y) from pk_rem (by omega) (by omega) (by omega)]
        refine ih y (x % y) (by omega) hy2 (by omega) ?_
        rw [← Nat.gcd_rec]
        exact hg
  exact vc_X6_divisor B (loop b a b (Nat.le_refl _) ha hb rfl)
end MROWS
