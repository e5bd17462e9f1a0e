/-! the reference: all plans tried; rivals; an evening truly -/
theorem Back.rf (v : xS) : Back v v := ⟨fun _ _ => rfl, fun _ _ => rfl⟩
theorem Back.trans {v v1 v2 : xS} (h : Back v v1) (h' : Back v1 v2) : Back v v2 := ⟨fun x hx => (h'.1 x hx).trans (h.1 x hx), fun i hi => (h'.2 i hi).trans (h.2 i hi)⟩
def BSM (v : xS) (st : Nat × List Nat) : Prop := v.1 200 33 = nI st.1 ∧ ∀ j, j < st.2.length → v.1 232 j = nI (st.2.getD j 0)
def TRM (v : xS) (pre : List Nat) : Prop := ∀ j, j < pre.length → v.1 231 j = nI (pre.getD j 0)
def scM : List Nat := [200, 210, 214, 230, 231, 232]
/-- what a node of the search leaves as it was (f0: the field that it may write) -/
def MPx (f0 k : Nat) (v v1 : xS) : Prop := v1.2 = v.2 ∧ (∀ a, a ∉ scM → v1.1 a = v.1 a) ∧ (∀ f, f ≠ f0 → v1.1 200 f = v.1 200 f) ∧ (∀ j, j < 14 * k → v1.1 230 j = v.1 230 j) ∧ ∀ j, j < k → v1.1 231 j = v.1 231 j
theorem MPx.rf (f0 k : Nat) (v : xS) : MPx f0 k v v := ⟨rfl, fun _ _ => rfl, fun _ _ => rfl, fun _ _ => rfl, fun _ _ => rfl⟩
theorem MPx.trans {f0 k : Nat} {v v1 v2 : xS} (h : MPx f0 k v v1) (h' : MPx f0 k v1 v2) : MPx f0 k v v2 :=
  ⟨h'.1.trans h.1, fun a ha => (h'.2.1 a ha).trans (h.2.1 a ha), fun f hf => (h'.2.2.1 f hf).trans (h.2.2.1 f hf), fun j hj => (h'.2.2.2.1 j hj).trans (h.2.2.2.1 j hj), fun j hj => (h'.2.2.2.2 j hj).trans (h.2.2.2.2 j hj)⟩
theorem MPx.down {f0 k : Nat} {v v1 : xS} (h : MPx f0 (k + 1) v v1) : MPx f0 k v v1 := ⟨h.1, h.2.1, h.2.2.1, fun j hj => h.2.2.2.1 j (by omega), fun j hj => h.2.2.2.2 j (by omega)⟩
theorem MPx.of {f0 k : Nat} {S : List Nat} {v v1 : xS} (h : Same S v v1) (hS : ∀ a, a ∈ S → a = 210 ∨ a = 214) : MPx f0 k v v1 := by
  have key : ∀ a, a ≠ 210 → a ≠ 214 → v1.1 a = v.1 a := fun a h1 h2 => h.2 a (fun q => by rcases hS a q with e | e; exact h1 e; exact h2 e)
  exact ⟨h.1, fun a ha => key a (by simp [scM] at ha; omega) (by simp [scM] at ha; omega), fun f _ => by rw [key 200 (by decide) (by decide)], fun j _ => by rw [key 230 (by decide) (by decide)], fun j _ => by rw [key 231 (by decide) (by decide)]⟩
theorem LM.mp {f0 k : Nat} {v v1 : xS} {D : xD} (h : LM v D) (hf : 30 < f0) (hs : MPx f0 k v v1) : LM v1 D := by
  obtain ⟨a, b, c, e⟩ := h
  refine ⟨?_, ?_, ?_, fun i hi => ?_⟩
  · rw [hs.2.2.1 8 (by omega)]; exact a
  · rw [hs.2.2.1 9 (by omega)]; exact b
  · rw [hs.2.2.1 15 (by omega)]; exact c
  · rw [hs.2.1 211 (by decide), hs.2.1 212 (by decide), hs.2.1 213 (by decide)]; exact e i hi
section MSRCH
variable {G : xG} {d : Nat} {z : xZ} {D : xD}
theorem om_playOn (B : Base z) (hD : DB D) {N : Nat} (hN : N ≤ 3) {K : xS → Prop} {Gl : (Nat → Nat) → Bool}
    (hK : ∀ v v1 : xS, K v → (∀ f, f ≠ 33 → v1.1 200 f = v.1 200 f) → K v1)
    (hW : ∀ (d : Nat) (v : xS) (g : Nat → Nat) (Q : Int32 → xS → Prop), K v → LM v D → Gd v 210 D g → sm g (dn D) ≤ 90 → (Gl g = true → Q 1 v) → (Gl g = false → Q 0 v) → oX6_isGoal G (d + 2) [.ref 200] z v Q) :
    ∀ (m k : Nat) (v : xS) (g : Nat → Nat) (br : Nat) (pre : List Nat) (st : Nat × List Nat) (Q : xS → Prop), k + m = N → LM v D → K v → Gd v 210 D g → sm g (dn D) ≤ 90 → pre.length = k → TRM v pre → BSM v st → st.1 ≤ 1048576 → br ≤ 27 * k →
    (∀ v1, MPx 33 k v v1 → Back v v1 → BSM v1 (sPl D Gl m g br pre st) → Q v1) → oX6_playOn G (d + m + 8) [.ref 200, .int (nI k), .int (nI N), .int (nI br)] z v Q := by
  have hn := hD.1
  have hb := hD.2.1
  have hp27 := pow3 hb
  intro m
  induction m with
  | zero =>
    intro k v g br pre st Q hk hL hKv hG hs hpre hT hB hst hbr hq
    have hkN : k = N := by omega
    subst hkN
    refine vc_X6_playOn B (nf rfl (hW _ v g _ hKv hL hG hs (fun h => br1 ⟨fun c => ?_, fun c v4 e4 => ?_⟩) (fun h => br0 ?_)))
    · rw [hB.1, i32le, nIi (by omega), nIi (by omega)] at c
      refine hq v (MPx.rf _ _ _) (Back.rf _) ?_
      unfold sPl
      rw [if_neg (fun q => by omega)]
      exact hB
    · rw [hB.1, i32le, nIi (by omega), nIi (by omega)] at c
      have loop : ∀ (cc j : Nat) (v1 : xS), j + cc = k → Same [232] v4 v1 → (∀ i, i < j → v1.1 232 i = v4.1 231 i) → aX6_playOn G (d + 0 + 8) 28 [some (.ref 200), some (.int (nI k)), some (.int (nI k)), some (.int (nI br)), some (.int (nI j))] [] z v1 Q := by
        intro cc
        induction cc with
        | zero =>
          intro j v1 hj hS h1
          have ej : j = k := by omega
          subst ej
          refine vc_X6_playOn_28 B (bt (by rw [i32le]; omega) (hq v1 ?_ ?_ ?_))
          · refine ⟨by rw [hS.1, e4]; rfl, fun a ha => ?_, fun f hf => ?_, fun i _ => ?_, fun i _ => ?_⟩
            · rw [Same1 hS (by intro q; rw [q] at ha; exact ha (by decide)), e4, wV_ne (by intro q; rw [q] at ha; exact ha (by decide))]
            · rw [Same1 hS (by decide), e4, wV_other _ _ _ _ _ hf]
            · rw [Same1 hS (by decide), e4, wV_ne (by decide)]
            · rw [Same1 hS (by decide), e4, wV_ne (by decide)]
          · exact ⟨fun x _ => by rw [Same1 hS (by decide), e4, wV_ne (by decide)], fun i _ => by rw [Same1 hS (by decide), e4, wV_ne (by decide)]⟩
          · unfold sPl
            rw [if_pos ⟨h, by omega⟩]
            refine ⟨by rw [Same1 hS (by decide), e4, wV_at], fun i hi => ?_⟩
            dsimp only at hi ⊢
            rw [h1 i (by omega), e4, wV_ne (by decide)]
            exact hT i hi
        | succ cc ih =>
          intro j v1 hj hS h1
          have v3 := vpN (j := j) (n := 3) (by omega) (by omega)
          refine vc_X6_playOn_28 B (bf (by rw [i32le, nIi (by omega), nIi (by omega)]; omega) ⟨v3, v3, fun v3 e3 => ?_⟩)
          rw [clN (by omega), Same1 hS (by decide)] at e3
          subst e3
          rw [nI_1]
          refine ih (j + 1) _ (by omega) (hS.wV (by simp)) (fun i hi => ?_)
          by_cases hij : i = j
          · rw [hij, wV_at]
          · rw [wV_other _ _ _ _ _ hij]; exact h1 i (by omega)
      exact loop k 0 v4 (by omega) (Same.rf _ _) (fun i h => absurd h (Nat.not_lt_zero _))
    · refine hq v (MPx.rf _ _ _) (Back.rf _) ?_
      unfold sPl
      rw [if_neg (fun q => by rw [h] at q; exact absurd q.1 (by decide))]
      exact hB
  | succ m ih =>
    intro k v g br pre st Q hk hL hKv hG hs hpre hT hB hst hbr hq
    obtain ⟨f, hf⟩ : ∃ f : Nat → Nat × List Nat → Nat × List Nat, f = fun p s => sPl D Gl m (eG D p g) (br + eB D p) (pre ++ [p]) s := ⟨_, rfl⟩
    have hfl : ∀ c, c ≤ 3 ^ db D → (sIt f c st).1 ≤ st.1 := fun c hc => by
      rw [hf]
      exact sIt_inv (P := fun _ s => s.1 ≤ st.1) (n := 3 ^ db D) (Nat.le_refl _) (fun c s _ hs => Nat.le_trans (sPl_le m _ _ _ s) hs) c hc
    have hq1 : ∀ v1, MPx 33 k v v1 → Back v v1 → BSM v1 (sIt f (3 ^ db D) st) → Q v1 := by
      intro v1 h1 h2 h3
      refine hq v1 h1 h2 ?_
      rw [sPl, ← hf]
      exact h3
    have e14 : (14 : Int32) * nI k = nI (14 * k) := by rw [show (14 : Int32) = nI 14 from rfl, pk_mul]
    have vk3 := vpN (j := k) (n := 3) (by omega) (by omega)
    have loop : ∀ (c p : Nat) (v1 : xS), p + c = 3 ^ db D → MPx 33 k v v1 → Back v v1 → Noted v v1 230 (14 * k) → BSM v1 (sIt f p st) → aX6_playOn G (d + (m + 1) + 8) 70 [some (.ref 200), some (.int (nI k)), some (.int (nI N)), some (.int (nI br)), some (.int (nI p))] [] z v1 Q := by
      intro c
      induction c with
      | zero =>
        intro p v1 hp hM hBk hNt hB1
        have ep : p = 3 ^ db D := by omega
        subst ep
        exact vc_X6_playOn_70 B (om_programs B (hL.mp (by decide) hM) hD (bt (by rw [i32le]; omega) (hq1 v1 hM hBk hB1)))
      | succ c ihc =>
        intro p v1 hp hM hBk hNt hB1
        have hL1 := hL.mp (by decide) hM
        have hebp := eB_le hD p
        have hsl := hfl p (by omega)
        refine vc_X6_playOn_70 B (om_programs B hL1 hD (bf (by rw [i32le, nIi (by omega), nIi (by omega)]; omega) ⟨vk3, fun v4 e4 => ?_⟩))
        rw [clN (by omega)] at e4
        have hS4 : Same [231] v1 v4 := by rw [e4]; exact (Same.rf _ _).wV (by simp)
        have hM4 : MPx 33 k v v4 := hM.trans ⟨hS4.1, fun a ha => Same1 hS4 (by intro q; rw [q] at ha; exact ha (by decide)), fun f _ => by rw [Same1 hS4 (by decide)], fun j _ => by rw [Same1 hS4 (by decide)], fun j hj => by rw [e4, wV_other _ _ _ _ _ (by omega)]⟩
        have hL4 := hL.mp (by decide) hM4
        have hG1 : Gd v1 210 D g := hG.back hD hBk
        refine om_passEvening B hL4 hD (hG1.same hS4 (by decide)) hs (by omega) (fun v5 hS5 hG5 _ => ?_)
        have hM45 : MPx 33 (k + 1) v4 v5 := MPx.of hS5 (by simp)
        have hM5 : MPx 33 k v v5 := hM4.trans hM45.down
        have hL5 := hL.mp (by decide) hM5
        refine om_breathOf B hL5 hD (by omega) ?_
        rw [nI_add, nI_1 k, nI_1 p]
        have t5 : TRM v5 (pre ++ [p]) := by
          intro j hj
          rw [List.length_append, List.length_singleton, hpre] at hj
          rw [hM45.2.2.2.2 j (by omega)]
          by_cases hjk : j = k
          · rw [hjk, e4, wV_at]
            congr 1
            simp [List.getD, ← hpre]
          · rw [e4, wV_other _ _ _ _ _ hjk, hM.2.2.2.2 j (by omega), hT j (by omega)]
            congr 1
            simp [List.getD, List.getElem?_append_left (show j < pre.length by omega)]
        have b5 : BSM v5 (sIt f p st) := by
          refine ⟨?_, fun j hj => ?_⟩
          · rw [hS5.2 200 (by decide), Same1 hS4 (by decide)]; exact hB1.1
          · rw [hS5.2 232 (by decide), Same1 hS4 (by decide)]; exact hB1.2 j hj
        refine ih (k + 1) v5 (eG D p g) (br + eB D p) (pre ++ [p]) (sIt f p st) _ (by omega) hL5 (hK v v5 hKv hM5.2.2.1) hG5 (by rw [sEvG_sm]; exact hs) (by simp [hpre]) t5 b5 (by omega) (by omega) (fun v9 hM9 hBk9 hB9 => ?_)
        have hM9' : MPx 33 k v v9 := hM5.trans hM9.down
        have n9 : Noted v v9 230 (14 * k) := by
          refine ⟨fun x hx => ?_, fun i hi => ?_⟩
          · rw [hM9.2.2.2.1 _ (by omega), hS5.2 230 (by decide), Same1 hS4 (by decide)]; exact hNt.1 x hx
          · rw [hM9.2.2.2.1 _ (by omega), hS5.2 230 (by decide), Same1 hS4 (by decide)]; exact hNt.2 i hi
        rw [e14]
        refine om_read B (bI_230 B) ⟨by decide, by decide⟩ (by decide) (by omega) (fun v10 hS10 h1 h2 => ?_)
        have hM10 : MPx 33 k v9 v10 := MPx.of hS10 (by simp)
        refine ihc (p + 1) v10 (by omega) (hM9'.trans hM10) ⟨fun x hx => (h1 x hx).trans (n9.1 x hx), fun i hi => (h2 i hi).trans (n9.2 i hi)⟩ ⟨fun x hx => ?_, fun i hi => ?_⟩ ?_
        · rw [hS10.2 230 (by decide)]; exact n9.1 x hx
        · rw [hS10.2 230 (by decide)]; exact n9.2 i hi
        · rw [sIt, hf]
          rw [hf] at hB9
          refine ⟨?_, fun j hj => ?_⟩
          · rw [hS10.2 200 (by decide)]; exact hB9.1
          · rw [hS10.2 232 (by decide)]; exact hB9.2 j hj
    refine vc_X6_playOn B (nt (fun q => by have := nIinj (by omega) (by omega) q; omega) ?_)
    rw [e14]
    refine om_write B (bI_230 B) ⟨by decide, by decide⟩ (by decide) (by omega) (fun v1 hS h1 h2 h3 => ?_)
    refine loop (3 ^ db D) 0 v1 (by omega) ⟨hS.1, fun a ha => Same1 hS (by intro q; rw [q] at ha; exact ha (by decide)), fun f _ => by rw [Same1 hS (by decide)], fun j hj => h3 j (by omega), fun j _ => by rw [Same1 hS (by decide)]⟩ ⟨fun x _ => by rw [Same1 hS (by decide)], fun i _ => by rw [Same1 hS (by decide)]⟩ ⟨h1, h2⟩ ⟨by rw [Same1 hS (by decide)]; exact hB.1, fun j hj => by rw [Same1 hS (by decide)]; exact hB.2 j hj⟩
/-- the reference's goal: a set flat; a spot high -/
theorem om_goalF {Q : Int32 → xS → Prop} (B : Base z) {v : xS} {g : Nat → Nat} (hL : LM v D) (hD : DB D) {F : Nat} (hF : F < 2 ^ dn D) (h34 : v.1 200 34 = nI F) (hG : Gd v 210 D g) (hs : sm g (dn D) ≤ 90) (h1 : gF D F g = true → Q 1 v) (h0 : gF D F g = false → Q 0 v) : oX6_isGoal G (d + 2) [.ref 200] z v Q := by
  have hn := hD.1
  have hF2 : F < 1024 := Nat.lt_of_lt_of_le hF (by
    have h : 2 ^ dn D ≤ 2 ^ 10 := Nat.pow_le_pow_right (by decide) hn
    exact h)
  have e : (v.1 200 8).toInt = dn D := by rw [hL.1]; exact nIi (by omega)
  have loop : ∀ (c x : Nat) (b : Bool), x ≤ dn D → dn D - x = c → (b = true ↔ ∀ y, y < x → F.testBit y = true → g y = 0) → aX6_isGoal G (d + 2) 33 [some (.ref 200), some (.int (if b = true then 1 else 0)), some (.int (nI x))] [] z v Q := by
    intro c
    induction c with
    | zero =>
      intro x b hx hc hb
      have ex : x = dn D := by omega
      subst ex
      refine vc_X6_isGoal_33 B (bt (by rw [i32le, e, nIi (by omega)]; omega) ?_)
      cases b
      · exact ⟨xbl_0, h0 (decide_eq_false (fun q => absurd (hb.mpr q) (by decide)))⟩
      · exact ⟨xbl_1, h1 (decide_eq_true (hb.mp rfl))⟩
    | succ c ih =>
      intro x b hx hc hb
      have v10 := vpN (j := x) (n := 10) (by omega) (by omega)
      have hg1 := sm_le (g := g) (n := dn D) (x := x) (by omega)
      refine vc_X6_isGoal_33 B (bf (by rw [i32le, e, nIi (by omega)]; omega) ?_)
      rw [nI_1]
      cases b
      · refine br0 (ih (x + 1) false (by omega) (by omega) ?_)
        exact ⟨fun q => absurd q (by decide), fun q => hb.mpr (fun y hy => q y (by omega))⟩
      · refine br1 ?_
        rw [h34]
        refine om_has B hF2 (by omega) (fun hbit => br1 ⟨v10, ?_⟩) (fun hbit => br0 (ih (x + 1) true (by omega) (by omega) ?_))
        · rw [clN (by omega), hG x (by omega)]
          refine ⟨fun c1 => ih (x + 1) false (by omega) (by omega) ?_, fun c1 => ih (x + 1) true (by omega) (by omega) ?_⟩
          · exact ⟨fun q => absurd q (by decide), fun q => absurd (by rw [q x (by omega) hbit]; rfl) c1⟩
          · refine ⟨fun _ y hy hyb => ?_, fun _ => rfl⟩
            by_cases hyx : y = x
            · rw [hyx]; exact nIinj (b := 0) (by omega) (by omega) c1
            · exact hb.mp rfl y (by omega) hyb
        · refine ⟨fun _ y hy hyb => ?_, fun _ => rfl⟩
          by_cases hyx : y = x
          · rw [hyx, hbit] at hyb; exact absurd hyb (by decide)
          · exact hb.mp rfl y (by omega) hyb
  refine vc_X6_isGoal B (bt (by rw [h34, i32le, i32_0, nIi (by omega)]; omega) (loop (dn D) 0 true (Nat.zero_le _) (by omega) ⟨fun _ y h => absurd h (Nat.not_lt_zero _), fun _ => rfl⟩))
theorem om_goalH {Q : Int32 → xS → Prop} (B : Base z) {v : xS} {g : Nat → Nat} (hD : DB D) {x val : Nat} (hx : x < dn D) (hv : val ≤ 99) (h34 : v.1 200 34 = -1) (h35 : v.1 200 35 = nI x) (h36 : v.1 200 36 = nI val) (hG : Gd v 210 D g) (hs : sm g (dn D) ≤ 90) (h1 : gH x val g = true → Q 1 v) (h0 : gH x val g = false → Q 0 v) : oX6_isGoal G (d + 2) [.ref 200] z v Q := by
  have hn := hD.1
  have hgx := sm_le (g := g) hx
  refine vc_X6_isGoal B (bf (by rw [h34]; decide) ?_)
  rw [h35, h36, clN (by omega), hG x hx]
  refine ⟨vpN (by omega) (by omega), fun c => h0 (decide_eq_false ?_), fun c => h1 (decide_eq_true ?_)⟩
  · rw [i32lt, nIi (by omega), nIi (by omega)] at c; omega
  · rw [i32lt, nIi (by omega), nIi (by omega)] at c; omega
end MSRCH
