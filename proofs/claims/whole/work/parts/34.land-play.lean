/-! Land: a tune, an evening on some ground -/
theorem sSh_lin (D : xD) (i : Nat) (x y : Int) (g : Nat → Nat) (c : Nat) : sSh D i x y (g, c) = ((sSh D i x y (g, 0)).1, c + (sSh D i x y (g, 0)).2) := by
  unfold sSh
  split
  · simp
  · simp
theorem nI_m1 {n : Nat} (h : 1 ≤ n) : nI n - 1 = nI (n - 1) := by
  have := nI_pred (n - 1)
  rwa [show n - 1 + 1 = n by omega] at this
theorem Same1 {a : Nat} {v v1 : xS} (h : Same [a] v v1) {b : Nat} (hb : b ≠ a) : v1.1 b = v.1 b := h.2 b (by simpa using hb)
section PLAY
variable {G : xG} {d : Nat} {z : xZ} {v : xS} {D : xD} {a : Nat} {g : Nat → Nat}
/-- an array for ground: not one of the land's own -/
def xgr (z : xZ) (a : Nat) : Prop := xin z a 10 10 ∧ a ≠ 30 ∧ a ≠ 32 ∧ a ≠ 33 ∧ a ≠ 34
theorem LC.gr {v1 : xS} (h : LC v D) (ha : xgr z a) (hs : Same [a] v v1) : LC v1 D := h.keep hs (by simpa using ha.2.1.symm) (by simpa using ha.2.2.1.symm) (by simpa using ha.2.2.2.1.symm) (by simpa using ha.2.2.2.2.symm)
theorem ok_shift {Q : Int32 → xS → Prop} (B : Base z) (hL : LC v D) (hD : DB D) (ha : xgr z a) (hG : Gd v a D g) (hs : sm g (dn D) ≤ 90) {i : Nat} (hi : i < db D) {fr way : Int32} {x w : Int} (hx : fr.toInt = x) (hw : way.toInt = w) (hw1 : w = 1 ∨ w = -1) (hxb : -100 ≤ x ∧ x ≤ 100)
    (hq : ∀ v1, Same [a] v v1 → Gd v1 a D (sSh D i x (x + w) (g, 0)).1 → Q (nI (sSh D i x (x + w) (g, 0)).2) v1) : oX1_shift G (d + 2) [.ref 30, .ref a, .int (nI i), .int fr, .int way] z v Q := by
  have hn := hD.1
  have et : (fr + way).toInt = x + w := by rw [i32add (by omega) (by omega), hx, hw]
  have none' : ¬ (0 ≤ x ∧ x < dn D ∧ 0 ≤ x + w ∧ x + w < dn D) → Q 0 v := fun h => by
    have := hq v (Same.rf _ _)
    unfold sSh at this
    rw [if_neg h] at this
    exact this hG
  refine vc_X1_shift B ha.1 (ok_isSpot B hL hD (fun h1 => br1 (ok_isSpot B hL hD (fun h2 => nb1 ?_) (fun h2 => nb0 (none' ?_)))) (fun h1 => br0 (none' ?_)))
  · have h1' := h1
    have h2' := h2
    unfold inR at h1' h2'
    rw [hx] at h1'
    rw [et] at h2'
    obtain ⟨j, hj, ej, -⟩ := inR_of h1
    obtain ⟨k, hk, ek, -⟩ := inR_of h2
    have ex : x = j := by rw [← hx, ej]; exact nIi (by omega)
    have ey : x + w = k := by rw [← et, ek]; exact nIi (by omega)
    have hjk : j ≠ k := by omega
    have hgj := sm_le (g := g) hj
    have hc := sInch_le D i j (g j)
    have hq' := hq
    unfold sSh at hq'
    rw [ey, ex] at hq'
    rw [if_pos (by omega)] at hq'
    simp only [Int.toNat_natCast, Nat.zero_add] at hq'
    rw [ek, ej]
    have vj := vpN (j := j) (n := 10) (by omega) (by omega)
    have vk := vpN (j := k) (n := 10) (by omega) (by omega)
    refine ⟨vj, ?_⟩
    rw [clN (by omega), hG j hj]
    refine ok_inchesFrom B hL hD hi hj (by omega) ⟨vj, vj, fun v10 e10 => ⟨vk, vk, fun v13 e13 => ?_⟩⟩
    rw [clN (by omega)] at e13
    subst e10
    subst e13
    refine hq' _ (((Same.rf _ _).wV (by simp)).wV (by simp)) (fun t ht => ?_)
    dsimp only
    rw [wV_eq, if_pos rfl]
    by_cases htk : t = k
    · rw [if_pos htk, if_pos htk, wV_eq, if_pos rfl, if_neg (Ne.symm hjk), hG k hk, nI_add, htk]
    · rw [if_neg htk, if_neg htk, wV_eq, if_pos rfl]
      by_cases htj : t = j
      · rw [if_pos htj, if_pos htj, hG j hj, pk_sub hc.1, htj]
      · rw [if_neg htj, if_neg htj]
        exact hG t ht
  · unfold inR at h1 h2; rw [et] at h2; omega
  · unfold inR at h1; rw [hx] at h1; omega
theorem ok_playTune {Q : Int32 → xS → Prop} (B : Base z) (hL : LC v D) (hD : DB D) (ha : xgr z a) (hG : Gd v a D g) (hs : sm g (dn D) ≤ 90) {i t : Nat} (hi : i < db D) (ht : t < 3)
    (hq : ∀ v1, Same [a] v v1 → Gd v1 a D (sTune D i t g).1 → Q (nI (sTune D i t g).2) v1) : oX1_playTune G (d + 3) [.ref 30, .ref a, .int (nI i), .int (nI t)] z v Q := by
  have hn := hD.1
  have hb := hD.2.1
  obtain ⟨hk, hP, hu1, hu2⟩ := hD.2.2.2 i hi
  obtain ⟨ek, eP, eu⟩ := hL.2.2.2 i hi
  have hr := sReach_le hD hi
  have vi := vpN (j := i) (n := 3) (by omega) (by omega)
  have hdist : sDist D i ≤ 9 := by unfold sDist; split <;> omega
  have edist : (if nI (dn D) - 1 < nI (sReach D i) then nI (dn D) - 1 else nI (sReach D i)) = nI (sDist D i) := by
    rw [nI_m1 (by omega)]
    unfold sDist
    by_cases h : dn D - 1 < sReach D i
    · rw [if_pos h, if_pos (by rw [i32lt, nIi (by omega), nIi (by omega)]; omega)]
    · rw [if_neg h, if_neg (by rw [i32lt, nIi (by omega), nIi (by omega)]; omega)]
  have up : (∀ v1, Same [a] v v1 → Gd v1 a D (sUp D i (sDist D i) (g, 0)).1 → Q (nI (sUp D i (sDist D i) (g, 0)).2) v1) → aX1_playTune G (d + 3) 64 [some (.ref 30), some (.ref a), some (.int (nI i)), some (.int (nI t)), some (.int (nI (sDist D i))), some (.int 0), some (.int 1)] [] z v Q := by
    intro hq2
    have loop : ∀ (c m : Nat) (v1 : xS), m ≤ sDist D i → sDist D i - m = c → Same [a] v v1 → Gd v1 a D (sUp D i m (g, 0)).1 → aX1_playTune G (d + 3) 64 [some (.ref 30), some (.ref a), some (.int (nI i)), some (.int (nI t)), some (.int (nI (sDist D i))), some (.int (nI (sUp D i m (g, 0)).2)), some (.int (nI (m + 1)))] [] z v1 Q := by
      intro c
      induction c with
      | zero =>
        intro m v1 hm hc hS hG1
        have em : m = sDist D i := by omega
        subst em
        exact vc_X1_playTune_64 B ha.1 (bt (by rw [i32lt, nIi (by omega), nIi (by omega)]; omega) (hq2 v1 hS hG1))
      | succ c ih =>
        intro m v1 hm hc hS hG1
        have hL1 := hL.gr ha hS
        have eP1 := (hL1.2.2.2 i hi).2.1
        have hs1 : sm (sUp D i m (g, 0)).1 (dn D) ≤ 90 := by rw [sUp_sm]; exact hs
        refine vc_X1_playTune_64 B ha.1 (bf (by rw [i32lt, nIi (by omega), nIi (by omega)]; omega) ⟨vi, ?_⟩)
        rw [clN (by omega), eP1]
        refine ok_shift (x := (dP D i : Int) - (m + 1 : Nat)) (w := 1) B hL1 hD ha hG1 hs1 hi (by rw [i32sub (by rw [nIi (by omega), nIi (by omega)]; omega) (by rw [nIi (by omega), nIi (by omega)]; omega), nIi (by omega), nIi (by omega)]) (by decide) (Or.inl rfl) (by omega) (fun v2 hS2 hG2 => ⟨vi, ?_⟩)
        have hL2 := hL1.gr ha hS2
        have eP2 := (hL2.2.2.2 i hi).2.1
        rw [eP2]
        refine ok_shift (x := (dP D i : Int) + (m + 1 : Nat)) (w := -1) B hL2 hD ha hG2 (by rw [sSh_sm _ _ _ _ _ (by omega)]; exact hs1) hi (by rw [i32add (by rw [nIi (by omega), nIi (by omega)]; omega) (by rw [nIi (by omega), nIi (by omega)]; omega), nIi (by omega), nIi (by omega)]) (by decide) (Or.inr rfl) (by omega) (fun v3 hS3 hG3 => ?_)
        have := ih (m + 1) v3 (by omega) (by omega) ((hS.trans hS2).trans hS3)
        rw [sUp, sPair] at this
        generalize hsu : sUp D i m (g, 0) = su at this hG1 hG2 hG3 hs1 ⊢
        obtain ⟨g1, c1⟩ := su
        rw [sSh_lin _ _ _ _ g1 c1, sSh_lin] at this
        have h2 := this hG3
        dsimp only at h2
        rw [nI_add, nI_add, nI_1, ← Nat.add_assoc]
        exact h2
    exact loop (sDist D i) 0 v (Nat.zero_le _) (by omega) (Same.rf _ _) hG
  have dn' : (∀ v1, Same [a] v v1 → Gd v1 a D (sDn D i (sDist D i) (g, 0)).1 → Q (nI (sDn D i (sDist D i) (g, 0)).2) v1) → aX1_playTune G (d + 3) 122 [some (.ref 30), some (.ref a), some (.int (nI i)), some (.int (nI t)), some (.int (nI (sDist D i))), some (.int 0), some (.int (nI (sDist D i)))] [] z v Q := by
    intro hq2
    have loop : ∀ (m : Nat) (s : xGs) (v1 : xS), m ≤ 9 → sm s.1 (dn D) ≤ 90 → Same [a] v v1 → Gd v1 a D s.1 → (∀ v2, Same [a] v v2 → Gd v2 a D (sDn D i m s).1 → Q (nI (sDn D i m s).2) v2) → aX1_playTune G (d + 3) 122 [some (.ref 30), some (.ref a), some (.int (nI i)), some (.int (nI t)), some (.int (nI (sDist D i))), some (.int (nI s.2)), some (.int (nI m))] [] z v1 Q := by
      intro m
      induction m with
      | zero =>
        intro s v1 hm hs1 hS hG1 hq3
        exact vc_X1_playTune_122 B ha.1 (bt (by decide) (hq3 v1 hS hG1))
      | succ m ih =>
        intro s v1 hm hs1 hS hG1 hq3
        have hL1 := hL.gr ha hS
        have eP1 := (hL1.2.2.2 i hi).2.1
        refine vc_X1_playTune_122 B ha.1 (bf (by rw [i32lt, nIi (by omega)]; show ¬ _ < (1 : Int32).toInt; rw [show (1 : Int32).toInt = 1 by decide]; omega) ⟨vi, ?_⟩)
        rw [clN (by omega), eP1]
        refine ok_shift (x := (dP D i : Int) - (m + 1 : Nat)) (w := -1) B hL1 hD ha hG1 hs1 hi (by rw [i32sub (by rw [nIi (by omega), nIi (by omega)]; omega) (by rw [nIi (by omega), nIi (by omega)]; omega), nIi (by omega), nIi (by omega)]) (by decide) (Or.inr rfl) (by omega) (fun v2 hS2 hG2 => ⟨vi, ?_⟩)
        have hL2 := hL1.gr ha hS2
        have eP2 := (hL2.2.2.2 i hi).2.1
        rw [eP2]
        refine ok_shift (x := (dP D i : Int) + (m + 1 : Nat)) (w := 1) B hL2 hD ha hG2 (by rw [sSh_sm _ _ _ _ _ (by omega)]; exact hs1) hi (by rw [i32add (by rw [nIi (by omega), nIi (by omega)]; omega) (by rw [nIi (by omega), nIi (by omega)]; omega), nIi (by omega), nIi (by omega)]) (by decide) (Or.inl rfl) (by omega) (fun v3 hS3 hG3 => ?_)
        have h9 := ih (sPair D i (-1) (m + 1) s) v3 (by omega) (by rw [sPair_sm _ _ _ _ _ (Or.inr rfl)]; exact hs1) ((hS.trans hS2).trans hS3)
        obtain ⟨g1, c1⟩ := s
        rw [sDn] at hq3
        have e9 : sPair D i (-1) (m + 1) (g1, c1) = ((sSh D i (↑(dP D i) + ↑(m + 1)) (↑(dP D i) + ↑(m + 1) + 1) ((sSh D i (↑(dP D i) - ↑(m + 1)) (↑(dP D i) - ↑(m + 1) + -1) (g1, 0)).1, 0)).1, c1 + (sSh D i (↑(dP D i) - ↑(m + 1)) (↑(dP D i) - ↑(m + 1) + -1) (g1, 0)).2 + (sSh D i (↑(dP D i) + ↑(m + 1)) (↑(dP D i) + ↑(m + 1) + 1) ((sSh D i (↑(dP D i) - ↑(m + 1)) (↑(dP D i) - ↑(m + 1) + -1) (g1, 0)).1, 0)).2) := by
          unfold sPair
          rw [sSh_lin _ _ _ _ g1 c1, sSh_lin]
          rfl
        rw [e9] at h9 hq3
        have h2 := h9 hG3 hq3
        dsimp only at h2 ⊢
        rw [nI_add, nI_add, pk_m1, ← Nat.add_assoc]
        exact h2
    exact loop (sDist D i) (g, 0) v hdist hs (Same.rf _ _) hG hq2
  unfold sTune at hq
  refine vc_X1_playTune B ha.1 (ok_isBandN B hL hD hi (br1 ⟨fun c => ok_reach B hL hD hi ?_, fun c => ?_⟩))
  · have t0 : t ≠ 0 := fun q => c (by rw [q]; rfl)
    rw [if_neg t0] at hq
    rw [hL.1, edist]
    refine ⟨fun c1 => ⟨vi, ?_⟩, fun c1 => ⟨vi, ?_⟩⟩
    · have t1 : t ≠ 1 := fun q => c1 (by rw [q]; rfl)
      rw [clN (by omega), ek]
      refine ⟨fun c2 => dn' ?_, fun c2 => up ?_⟩
      · rw [if_neg (by rw [iff_iff_eq]; intro q; have k5 : ¬ dK D i = 5 := fun q => c2 (by rw [q]; rfl); exact t1 (q.mpr k5))] at hq
        exact hq
      · have k5 : dK D i = 5 := nIinj (b := 5) (by omega) (by omega) c2
        rw [if_pos (by constructor; exact fun q => absurd q t1; exact fun q => absurd k5 q)] at hq
        exact hq
    · have t1 : t = 1 := nIinj (b := 1) (by omega) (by omega) c1
      rw [clN (by omega), ek]
      refine ⟨fun c2 => up ?_, fun c2 => dn' ?_⟩
      · have k5 : ¬ dK D i = 5 := fun q => c2 (by rw [q]; rfl)
        rw [if_pos (by constructor; exact fun _ => k5; exact fun _ => t1)] at hq
        exact hq
      · have k5 : dK D i = 5 := nIinj (b := 5) (by omega) (by omega) c2
        rw [if_neg (fun q => (q.mp t1) k5)] at hq
        exact hq
  · rw [if_pos (nIinj (b := 0) (by omega) (by omega) c)] at hq
    exact hq v (Same.rf _ _) hG
theorem ok_playAside {Q : Int32 → xS → Prop} (B : Base z) (hL : LC v D) (hD : DB D) (ha : xgr z a) (hG : Gd v a D g) (hs : sm g (dn D) ≤ 90) {p : Nat} (hp : p < 2147483648)
    (hq : ∀ v1, Same [a] v v1 → Gd v1 a D (eG D p g) → Q (nI (eT D p g)) v1) : oX1_playAside G (d + 4) [.ref 30, .ref a, .int (nI p)] z v Q := by
  have hb := hD.2.1
  have loop : ∀ (c m : Nat) (v1 : xS), m ≤ db D → db D - m = c → Same [a] v v1 → Gd v1 a D (sEvG D p m g) → aX1_playAside G (d + 4) 8 [some (.ref 30), some (.ref a), some (.int (nI p)), some (.int (nI (sEvT D p m g))), some (.int (nI (p / 3 ^ m))), some (.int (nI m))] [] z v1 Q := by
    intro c
    induction c with
    | zero =>
      intro m v1 hm hc hS hG1
      have em : m = db D := by omega
      subst em
      have hL1 := hL.gr ha hS
      exact vc_X1_playAside_8 B ha.1 (bt (by rw [hL1.2.1, i32le]; omega) (hq v1 hS hG1))
    | succ c ih =>
      intro m v1 hm hc hS hG1
      have hL1 := hL.gr ha hS
      have hpm : p / 3 ^ m < 2147483648 := Nat.lt_of_le_of_lt (Nat.div_le_self _ _) hp
      refine vc_X1_playAside_8 B ha.1 (bf (by rw [hL1.2.1, i32le, nIi (by omega), nIi (by omega)]; omega) ?_)
      rw [rem3 hpm, div3 hpm, Nat.div_div_eq_div_mul, ← Nat.pow_succ]
      refine ok_playTune B hL1 hD ha hG1 (by rw [sEvG_sm]; exact hs) (by omega) (Nat.mod_lt _ (by decide)) (fun v2 hS2 hG2 => ?_)
      rw [nI_add, nI_1]
      exact ih (m + 1) v2 (by omega) (by omega) (hS.trans hS2) hG2
  have h := loop (db D) 0 v (Nat.zero_le _) (by omega) (Same.rf _ _) hG
  rw [Nat.pow_zero, Nat.div_one] at h
  exact vc_X1_playAside B ha.1 h
end PLAY
