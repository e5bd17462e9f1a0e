/-! the reference: a tune, an evening; notes taken and read back -/
section MPLAY
variable {G : xG} {d : Nat} {z : xZ} {v : xS} {D : xD} {g : Nat → Nat}
theorem LM.same {S : List Nat} {v1 : xS} (h : LM v D) (hs : Same S v v1) (h1 : 200 ∉ S := by decide) (h2 : 211 ∉ S := by decide) (h3 : 212 ∉ S := by decide) (h4 : 213 ∉ S := by decide) : LM v1 D := h.keep hs h1 h2 h3 h4
/-- one SPOT: to its neighbour, if the BAND is HEARD there -/
theorem om_goSpot {Q : Int32 → xS → Prop} (B : Base z) (hL : LM v D) (hD : DB D) (hG : Gd v 210 D g) (hs : sm g (dn D) ≤ 90) {i : Nat} (hi : i < db D) {fr : Int32} {x w : Int} {nr : Int32} (hx : fr.toInt = x) (hxP : x ≠ dP D i) (hxb : -100 ≤ x ∧ x ≤ 100) (hw : (nr = 1 ∧ w = 1) ∨ (nr = 0 ∧ w = -1))
    (hq : ∀ v1, Same [210] v v1 → Gd v1 210 D (sShH D i x (if x < dP D i then x + w else x - w) (g, 0)).1 → Q (nI (sShH D i x (if x < dP D i then x + w else x - w) (g, 0)).2) v1) : oX6_goSpot G (d + 4) [.ref 200, .int (nI i), .int fr, .int nr] z v Q := by
  have hn := hD.1
  have hb := hD.2.1
  obtain ⟨hk, hP, hu1, hu2⟩ := hD.2.2.2 i hi
  obtain ⟨ek, eP, eu⟩ := hL.2.2.2 i hi
  have vi := vpN (j := i) (n := 3) (by omega) (by omega)
  have eP2 : (nI (dP D i)).toInt = dP D i := nIi (by omega)
  obtain ⟨yy, hyy⟩ : ∃ yy : Int, yy = if x < dP D i then x + w else x - w := ⟨_, rfl⟩
  rw [← hyy] at hq
  have none' : ¬ (0 ≤ x ∧ x < dn D ∧ 0 ≤ yy ∧ yy < dn D) → Q 0 v := fun h => by
    have := hq v (Same.rf _ _)
    unfold sShH sSh at this
    rw [if_neg h, ite_self] at this
    exact this hG
  -- all four roads are one
  have core : ∀ (j : Nat), fr = nI j → j < dn D → x = j → ∀ to : Int32, to.toInt = yy → oX6_isSpot G (d + 3) [.ref 200, .int to] z v (fun r5 v4 => ((r5 = 0 → Q 0 v4) ∧ (¬ r5 = 0 → (oX6_inchesOf G (d + 3) [.ref 200, .int (nI i), .int fr] z v4 (fun r7 v6 => ((r7 ≤ 0 → Q r7 v6) ∧ (¬ r7 ≤ 0 → (vp_in fr 10 ∧ (vp_in fr 10 ∧ (∀ v10 : xS, v10 = wV v6 210 fr.toNatClampNeg ((v6.1 210 fr.toNatClampNeg) - r7) → (vp_in to 10 ∧ (vp_in to 10 ∧ (∀ v13 : xS, v13 = wV v10 210 to.toNatClampNeg ((v10.1 210 to.toNatClampNeg) + r7) → Q r7 v13))))))))))))) := by
    intro j ej hj exj to hto
    refine om_isSpot B hL hD (fun h2 => br1 ?_) (fun h2 => br0 (none' (fun q => h2 (by unfold inR; omega))))
    obtain ⟨k, hk2, ek2, -⟩ := inR_of h2
    have ey : yy = k := by rw [← hto, ek2]; exact nIi (by omega)
    have hjk : j ≠ k := by rw [hyy] at ey; rcases hw with ⟨-, hw⟩ | ⟨-, hw⟩ <;> split at ey <;> omega
    have hgj := sm_le (g := g) hj
    have hc := sInch_le D i j (g j)
    subst ej
    have vj := vpN (j := j) (n := 10) (by omega) (by omega)
    have vk := vpN (j := k) (n := 10) (by omega) (by omega)
    have hheard : (sHrd D i j = true) ↔ (if x ≤ dP D i then (dP D i : Int) - x else x - dP D i) ≤ sReach D i := by
      unfold sHrd
      rw [decide_eq_true_iff, exj]
      constructor
      · intro h; have h2 := h.2; split at h2 <;> split <;> omega
      · intro h; refine ⟨by omega, ?_⟩; split at h <;> split <;> omega
    refine om_inchesOf B hL hD hG hs hi hj ⟨fun c => ?_, fun c => ⟨vj, vj, fun v10 e10 => ?_⟩⟩
    · have hq' := hq v (Same.rf _ _)
      unfold sShH at hq'
      by_cases hh : sHrd D i j = true
      · rw [if_pos hh] at c ⊢
        rw [i32le, i32_0, nIi (by omega)] at c
        have c0 : sInch D i j (g j) = 0 := by omega
        rw [if_pos (hheard.mp hh)] at hq'
        unfold sSh at hq'
        rw [if_pos (by omega), exj, ey] at hq'
        simp only [Int.toNat_natCast, c0] at hq'
        rw [c0]
        refine hq' (fun t ht => ?_)
        dsimp only
        split
        · rw [Nat.add_zero]; exact hG t ht
        · split
          · rw [Nat.sub_zero]; exact hG t ht
          · exact hG t ht
      · rw [if_neg hh]
        rw [if_neg (fun q => hh (hheard.mpr q))] at hq'
        exact hq' hG
    · have hh : sHrd D i j = true := by
        cases h9 : sHrd D i j
        · rw [h9, if_neg (by decide)] at c; exact absurd (by decide) c
        · rfl
      rw [if_pos hh] at e10 ⊢
      rw [ek2]
      refine ⟨vk, vk, fun v13 e13 => ?_⟩
      rw [clN (by omega), hG j hj, pk_sub hc.1] at e10
      rw [clN (by omega)] at e13
      have hq' := hq v13
      unfold sShH sSh at hq'
      rw [if_pos (hheard.mp hh), if_pos (by omega), exj, ey] at hq'
      simp only [Int.toNat_natCast, Nat.zero_add] at hq'
      subst e10
      subst e13
      refine hq' (((Same.rf _ _).wV (by simp)).wV (by simp)) (fun t ht => ?_)
      dsimp only
      rw [wV_eq, if_pos rfl]
      by_cases htk : t = k
      · rw [if_pos htk, if_pos htk, wV_eq, if_pos rfl, if_neg (Ne.symm hjk), hG k hk2, nI_add, htk]
      · rw [if_neg htk, if_neg htk, wV_eq, if_pos rfl]
        by_cases htj : t = j
        · rw [if_pos htj, if_pos htj, htj]
        · rw [if_neg htj, if_neg htj]
          exact hG t ht
  refine vc_X6_goSpot B (om_isSpot B hL hD (fun h1 => nb1 ⟨vi, ?_⟩) (fun h1 => nb0 (none' (fun q => h1 (by unfold inR; omega)))))
  obtain ⟨j, hj, ej, -⟩ := inR_of h1
  have exj : x = j := by rw [← hx, ej]; exact nIi (by omega)
  have efr : fr.toInt = j := by rw [hx, exj]
  have em1 : (-1 : Int32).toInt = -1 := by decide
  rw [clN (by omega), eP]
  refine ⟨fun c => ⟨fun c0 => ?_, fun c0 => ?_⟩, fun c => ⟨fun c0 => ?_, fun c0 => ?_⟩⟩
  · rw [i32le, eP2, efr] at c
    have hw2 : w = -1 := by rcases hw with ⟨h, -⟩ | ⟨-, h⟩; · rw [h] at c0; exact absurd c0 (by decide)
                            · exact h
    refine core j ej hj exj _ ?_
    rw [i32sub (by rw [em1]; omega) (by rw [em1]; omega), em1, efr, hyy, if_neg (by omega), hw2]; omega
  · rw [i32le, eP2, efr] at c
    have hw2 : w = 1 := by rcases hw with ⟨-, h⟩ | ⟨h, -⟩; · exact h
                           · exact absurd h c0
    refine core j ej hj exj _ ?_
    rw [i32add (by rw [em1]; omega) (by rw [em1]; omega), em1, efr, hyy, if_neg (by omega), hw2]; omega
  · rw [i32le, eP2, efr] at c
    have hw2 : w = -1 := by rcases hw with ⟨h, -⟩ | ⟨-, h⟩; · rw [h] at c0; exact absurd c0 (by decide)
                            · exact h
    refine core j ej hj exj _ ?_
    rw [i32sub (by rw [i32_1]; omega) (by rw [i32_1]; omega), i32_1, efr, hyy, if_pos (by omega), hw2]; omega
  · rw [i32le, eP2, efr] at c
    have hw2 : w = 1 := by rcases hw with ⟨-, h⟩ | ⟨h, -⟩; · exact h
                           · exact absurd h c0
    refine core j ej hj exj _ ?_
    rw [i32add (by rw [i32_1]; omega) (by rw [i32_1]; omega), i32_1, efr, hyy, if_pos (by omega), hw2]; omega
theorem sShH_lin (D : xD) (i : Nat) (x y : Int) (g : Nat → Nat) (c : Nat) : sShH D i x y (g, c) = ((sShH D i x y (g, 0)).1, c + (sShH D i x y (g, 0)).2) := by
  unfold sShH
  by_cases h : (if x ≤ dP D i then (dP D i : Int) - x else x - dP D i) ≤ sReach D i
  · rw [if_pos h, if_pos h]; exact sSh_lin D i x y g c
  · rw [if_neg h, if_neg h]; simp
theorem sShH_sm (D : xD) (i : Nat) (x y : Int) (s : xGs) (hxy : x ≠ y) : sm (sShH D i x y s).1 (dn D) = sm s.1 (dn D) := by
  unfold sShH
  by_cases h : (if x ≤ dP D i then (dP D i : Int) - x else x - dP D i) ≤ sReach D i
  · rw [if_pos h]; exact sSh_sm D i x y s hxy
  · rw [if_neg h]
/-- both SPOTS that far, as the reference has them -/
theorem sPairH (D : xD) (i : Nat) (w : Int) (dd : Nat) (hd : 1 ≤ dd) (s : xGs) : sShH D i (dP D i + dd) (dP D i + dd - w) (sShH D i (dP D i - dd) (dP D i - dd + w) s) = if dd ≤ sReach D i then sPair D i w dd s else s := by
  unfold sShH sPair
  have e1 : (if (dP D i : Int) - dd ≤ dP D i then (dP D i : Int) - (dP D i - dd) else (dP D i : Int) - dd - dP D i) = dd := by rw [if_pos (by omega)]; omega
  have e2 : (if (dP D i : Int) + dd ≤ dP D i then (dP D i : Int) - (dP D i + dd) else (dP D i : Int) + dd - dP D i) = dd := by rw [if_neg (by omega)]; omega
  rw [e1, e2]
  by_cases h : dd ≤ sReach D i
  · rw [if_pos (by omega), if_pos (by omega), if_pos h]
  · rw [if_neg (by omega), if_neg (by omega), if_neg h]
theorem om_pair {Q : Int32 → Int32 → xS → Prop} (B : Base z) (hL : LM v D) (hD : DB D) (hG : Gd v 210 D g) (hs : sm g (dn D) ≤ 90) {i dd : Nat} (hi : i < db D) (hd1 : 1 ≤ dd) (hd2 : dd ≤ 9) {w : Int} {nr : Int32} (hw : (nr = 1 ∧ w = 1) ∨ (nr = 0 ∧ w = -1)) {f1 : Int32} (hf1 : f1 = nI dd)
    (hq : ∀ r3 r6 v5, Same [210] v v5 → Gd v5 210 D (if dd ≤ sReach D i then sPair D i w dd (g, 0) else (g, 0)).1 → r3 + r6 = nI (if dd ≤ sReach D i then sPair D i w dd (g, 0) else (g, 0)).2 → Q r3 r6 v5) :
    vp_in (nI i) 3 ∧ (oX6_goSpot G (d + 4) [.ref 200, .int (nI i), .int ((v.1 212 (nI i).toNatClampNeg) - f1), .int nr] z v (fun r3 v2 => (vp_in (nI i) 3 ∧ (oX6_goSpot G (d + 4) [.ref 200, .int (nI i), .int ((v2.1 212 (nI i).toNatClampNeg) + f1), .int nr] z v2 (fun r6 v5 => Q r3 r6 v5))))) := by
  have hn := hD.1
  have hb := hD.2.1
  obtain ⟨hk, hP, hu1, hu2⟩ := hD.2.2.2 i hi
  have vi := vpN (j := i) (n := 3) (by omega) (by omega)
  have hw1 : w = 1 ∨ w = -1 := by rcases hw with ⟨-, h⟩ | ⟨-, h⟩; · exact Or.inl h
                                  · exact Or.inr h
  refine ⟨vi, ?_⟩
  rw [clN (by omega), (hL.2.2.2 i hi).2.1, hf1]
  refine om_goSpot (x := (dP D i : Int) - dd) (w := w) B hL hD hG hs hi (by rw [i32sub (by rw [nIi (by omega), nIi (by omega)]; omega) (by rw [nIi (by omega), nIi (by omega)]; omega), nIi (by omega), nIi (by omega)]) (by omega) (by omega) hw (fun v2 hS2 hG2 => ⟨vi, ?_⟩)
  rw [if_pos (by omega)] at hG2 ⊢
  have hL2 : LM v2 D := hL.same hS2
  rw [(hL2.2.2.2 i hi).2.1]
  refine om_goSpot (x := (dP D i : Int) + dd) (w := w) B hL2 hD hG2 (by rw [sShH_sm _ _ _ _ _ (by omega)]; exact hs) hi (by rw [i32add (by rw [nIi (by omega), nIi (by omega)]; omega) (by rw [nIi (by omega), nIi (by omega)]; omega), nIi (by omega), nIi (by omega)]) (by omega) (by omega) hw (fun v5 hS5 hG5 => ?_)
  rw [if_neg (by omega)] at hG5 ⊢
  have hp := sPairH D i w dd hd1 (g, 0)
  have hl := sShH_lin D i (dP D i + dd) (dP D i + dd - w) (sShH D i (dP D i - dd) (dP D i - dd + w) (g, 0)).1 (sShH D i (dP D i - dd) (dP D i - dd + w) (g, 0)).2
  have hp2 : (if dd ≤ sReach D i then sPair D i w dd (g, 0) else (g, 0)) = ((sShH D i (dP D i + dd) (dP D i + dd - w) ((sShH D i (dP D i - dd) (dP D i - dd + w) (g, 0)).1, 0)).1, (sShH D i (dP D i - dd) (dP D i - dd + w) (g, 0)).2 + (sShH D i (dP D i + dd) (dP D i + dd - w) ((sShH D i (dP D i - dd) (dP D i - dd + w) (g, 0)).1, 0)).2) := hp.symm.trans hl
  refine hq _ _ v5 (hS2.trans hS5) ?_ ?_
  · rw [hp2]; exact hG5
  · rw [hp2, nI_add]
theorem sPair_lin (D : xD) (i : Nat) (w : Int) (dd : Nat) (g : Nat → Nat) (c : Nat) : (if dd ≤ sReach D i then sPair D i w dd (g, c) else (g, c)) = ((if dd ≤ sReach D i then sPair D i w dd (g, 0) else (g, 0)).1, c + (if dd ≤ sReach D i then sPair D i w dd (g, 0) else (g, 0)).2) := by
  by_cases h : dd ≤ sReach D i
  · rw [if_pos h, if_pos h]
    unfold sPair
    rw [sSh_lin D i _ _ g c, sSh_lin D i _ _ _ (c + _)]
    generalize hs1 : sSh D i (↑(dP D i) - ↑dd) (↑(dP D i) - ↑dd + w) (g, 0) = s1
    obtain ⟨g1, c1⟩ := s1
    dsimp only
    rw [sSh_lin D i _ _ g1 c1]
    simp only [Nat.add_assoc]
  · rw [if_neg h, if_neg h]; simp
theorem om_play {Q : Int32 → xS → Prop} (B : Base z) (hL : LM v D) (hD : DB D) (hG : Gd v 210 D g) (hs : sm g (dn D) ≤ 90) {i t : Nat} (hi : i < db D) (ht : t < 3)
    (hq : ∀ v1, Same [210] v v1 → Gd v1 210 D (sTune D i t g).1 → Q (nI (sTune D i t g).2) v1) : oX6_play G (d + 5) [.ref 200, .int (nI i), .int (nI t)] z v Q := by
  have hn := hD.1
  have hb := hD.2.1
  obtain ⟨hk, hP, hu1, hu2⟩ := hD.2.2.2 i hi
  obtain ⟨ek, eP, eu⟩ := hL.2.2.2 i hi
  have vi := vpN (j := i) (n := 3) (by omega) (by omega)
  have hdist : sDist D i ≤ 9 := by unfold sDist; split <;> omega
  have up : (∀ v1, Same [210] v v1 → Gd v1 210 D (sUp D i (sDist D i) (g, 0)).1 → Q (nI (sUp D i (sDist D i) (g, 0)).2) v1) → aX6_play G (d + 5) 46 [some (.ref 200), some (.int (nI i)), some (.int (nI t)), some (.int 1), some (.int 0), some (.int 1), none] [] z v Q := by
    intro hq2
    have hH : sUpH D i 9 (g, 0) = sUp D i (sDist D i) (g, 0) := by
      rw [sUpH_eq hP]
      by_cases h : 9 < sDist D i
      · omega
      · rw [if_neg h]
    rw [← hH] at hq2
    have hsm : ∀ m, sm (sUpH D i m (g, 0)).1 (dn D) ≤ 90 := fun m => by rw [sUpH_eq hP, sUp_sm]; exact hs
    have loop : ∀ (c m : Nat) (v1 : xS), m + c = 9 → Same [210] v v1 → Gd v1 210 D (sUpH D i m (g, 0)).1 → aX6_play G (d + 5) 46 [some (.ref 200), some (.int (nI i)), some (.int (nI t)), some (.int 1), some (.int (nI (sUpH D i m (g, 0)).2)), some (.int (nI (m + 1))), none] [] z v1 Q := by
      intro c
      induction c with
      | zero =>
        intro m v1 hm hS hG1
        have em : m = 9 := by omega
        subst em
        exact vc_X6_play_46 B (bt (by decide) (hq2 v1 hS hG1))
      | succ c ih =>
        intro m v1 hm hS hG1
        refine vc_X6_play_46 B (bf (by rw [i32le, i32_10, nIi (by omega)]; omega) (bf (by decide) ?_))
        refine om_pair (dd := m + 1) (w := 1) B (hL.same hS) hD hG1 (hsm m) hi (by omega) (by omega) (Or.inl ⟨rfl, rfl⟩) rfl (fun r3 r6 v5 hS5 hG5 hr => ?_)
        have h9 := ih (m + 1) v5 (by omega) (hS.trans hS5)
        have eq9 : sUpH D i (m + 1) (g, 0) = if m + 1 ≤ sReach D i then sPair D i 1 (m + 1) (sUpH D i m (g, 0)) else sUpH D i m (g, 0) := rfl
        rw [eq9] at h9
        generalize sUpH D i m (g, 0) = su at h9 hG5 hr hG1 ⊢
        obtain ⟨g1, c1⟩ := su
        rw [sPair_lin] at h9
        have h10 := h9 hG5
        dsimp only at h10 ⊢
        rw [← nI_add, ← hr, ← Int32.add_assoc] at h10
        rw [nI_1]
        exact h10
    exact loop 9 0 v rfl (Same.rf _ _) hG
  have dn' : (∀ v1, Same [210] v v1 → Gd v1 210 D (sDn D i (sDist D i) (g, 0)).1 → Q (nI (sDn D i (sDist D i) (g, 0)).2) v1) → aX6_play G (d + 5) 46 [some (.ref 200), some (.int (nI i)), some (.int (nI t)), some (.int 0), some (.int 0), some (.int 1), none] [] z v Q := by
    intro hq2
    have hH : sDnH D i 9 (g, 0) = sDn D i (sDist D i) (g, 0) := by
      rw [sDnH_eq hP]
      by_cases h : 9 < sDist D i
      · omega
      · rw [if_neg h]
    rw [← hH] at hq2
    have loop : ∀ (m : Nat) (s : xGs) (v1 : xS), m ≤ 9 → sm s.1 (dn D) ≤ 90 → Same [210] v v1 → Gd v1 210 D s.1 → (∀ v2, Same [210] v v2 → Gd v2 210 D (sDnH D i m s).1 → Q (nI (sDnH D i m s).2) v2) → aX6_play G (d + 5) 46 [some (.ref 200), some (.int (nI i)), some (.int (nI t)), some (.int 0), some (.int (nI s.2)), some (.int (nI (10 - m))), none] [] z v1 Q := by
      intro m
      induction m with
      | zero =>
        intro s v1 hm hs1 hS hG1 hq3
        exact vc_X6_play_46 B (bt (by decide) (hq3 v1 hS hG1))
      | succ m ih =>
        intro s v1 hm hs1 hS hG1 hq3
        refine vc_X6_play_46 B (bf (by rw [i32le, i32_10, nIi (by omega)]; omega) (bt rfl ?_))
        have e10 : (10 : Int32) - nI (10 - (m + 1)) = nI (m + 1) := by
          rw [show (10 : Int32) = nI 10 from rfl, pk_sub (by omega)]; congr 1; omega
        obtain ⟨g1, c1⟩ := s
        refine om_pair (dd := m + 1) (w := -1) B (hL.same hS) hD hG1 hs1 hi (by omega) (by omega) (Or.inr ⟨rfl, rfl⟩) e10 (fun r3 r6 v5 hS5 hG5 hr => ?_)
        rw [sDnH] at hq3
        rw [sPair_lin] at hq3
        have h9 := ih ((if m + 1 ≤ sReach D i then sPair D i (-1) (m + 1) (g1, 0) else (g1, 0)).1, c1 + (if m + 1 ≤ sReach D i then sPair D i (-1) (m + 1) (g1, 0) else (g1, 0)).2) v5 (by omega) (by
          dsimp only
          split
          · rw [sPair_sm _ _ _ _ _ (Or.inr rfl)]; exact hs1
          · exact hs1) (hS.trans hS5) hG5 hq3
        dsimp only at h9 ⊢
        rw [← nI_add, ← hr, ← Int32.add_assoc, show 10 - m = 10 - (m + 1) + 1 by omega, ← nI_1] at h9
        exact h9
    exact loop 9 (g, 0) v (by omega) hs (Same.rf _ _) hG hq2
  unfold sTune at hq
  refine vc_X6_play B ⟨fun c => ?_, fun c => ?_⟩
  · have t0 : t ≠ 0 := fun q => c (by rw [q]; rfl)
    rw [if_neg t0] at hq
    refine ⟨fun c1 => ⟨vi, ?_⟩, fun c1 => ⟨vi, ?_⟩⟩
    · have t1 : t ≠ 1 := fun q => c1 (by rw [q]; rfl)
      rw [clN (by omega), ek]
      refine ⟨fun c2 => dn' ?_, fun c2 => up ?_⟩
      · rw [if_neg (by rw [iff_iff_eq]; intro q; have k5 : ¬ dK D i = 5 := fun q => c2 (by rw [q]; rfl); exact t1 (q.mpr k5))] at hq
        exact hq
      · have k5 : dK D i = 5 := nIinj (b := 5) (by omega) (by omega) c2
        rw [if_pos (by constructor; exact fun q => absurd q t1; exact fun q => absurd k5 q)] at hq
        exact hq
    · have t1 : t = 1 := nIinj (b := 1) (by omega) (by omega) c1
      rw [clN (by omega), ek]
      refine ⟨fun c2 => up ?_, fun c2 => dn' ?_⟩
      · have k5 : ¬ dK D i = 5 := fun q => c2 (by rw [q]; rfl)
        rw [if_pos (by constructor; exact fun _ => k5; exact fun _ => t1)] at hq
        exact hq
      · have k5 : dK D i = 5 := nIinj (b := 5) (by omega) (by omega) c2
        rw [if_neg (fun q => (q.mp t1) k5)] at hq
        exact hq
  · rw [if_pos (nIinj (b := 0) (by omega) (by omega) c)] at hq
    exact hq v (Same.rf _ _) hG
end MPLAY
