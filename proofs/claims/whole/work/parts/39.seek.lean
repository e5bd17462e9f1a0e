/-! Plan: seek, isFound -/
theorem sIt_all {D : xD} {Gl : (Nat → Nat) → Bool} (m : Nat) (g : Nat → Nat) (br : Nat) (pre : List Nat) (st : Nat × List Nat) (l : List Nat) (hl : l.length = m) (hp : ∀ p, p ∈ l → p < 3 ^ db D) {q c : Nat} (hq : q < c) (hc : c ≤ 3 ^ db D) (hg : Gl (sGo D l (eG D q g)) = true) : (sIt (fun p s => sPl D Gl m (eG D p g) (br + eB D p) (pre ++ [p]) s) c st).1 ≤ br + eB D q + sGoB D l := by
  have := sIt_inv (f := fun p s => sPl D Gl m (eG D p g) (br + eB D p) (pre ++ [p]) s) (P := fun c s => q < c → s.1 ≤ br + eB D q + sGoB D l) (n := 3 ^ db D) (s := st) (fun h => absurd h (Nat.not_lt_zero _)) (fun c s hc hs hqc => by
    by_cases hcq : q < c
    · exact Nat.le_trans (sPl_le m _ _ _ s) (hs hcq)
    · have hcq2 : c = q := by omega
      subst hcq2
      exact sPl_all m (eG D c g) (br + eB D c) (pre ++ [c]) s l hl hp hg) c hc
  exact this hq
theorem sGoB_le {D : xD} (hD : DB D) : ∀ l : List Nat, sGoB D l ≤ 27 * l.length
  | [] => by simp [sGoB]
  | p :: l => by
    have h1 := sGoB_le hD l
    have h2 := eB_le hD p
    rw [sGoB, List.length_cons]
    omega
/-- the best so far, and the programs that are tried, in their cells -/
def BST (v : xS) (st : Nat × List Nat) : Prop := v.1 90 6 = nI st.1 ∧ ∀ j, j < st.2.length → v.1 99 j = nI (st.2.getD j 0)
def TRD (v : xS) (pre : List Nat) : Prop := ∀ j, j < pre.length → v.1 97 j = nI (pre.getD j 0)
def SK (k : Nat) (v v1 : xS) : Prop := v1.2 = v.2 ∧ (∀ a, a ≠ 90 → a ≠ 97 → a ≠ 99 → (a ≤ 92 + k ∨ 95 < a) → v1.1 a = v.1 a) ∧ (∀ f, f ≠ 6 → v1.1 90 f = v.1 90 f) ∧ ∀ j, j < k → v1.1 97 j = v.1 97 j
theorem SK.rf (k : Nat) (v : xS) : SK k v v := ⟨rfl, fun _ _ _ _ _ => rfl, fun _ _ => rfl, fun _ _ => rfl⟩
theorem SK.trans {k : Nat} {v v1 v2 : xS} (h : SK k v v1) (h' : SK k v1 v2) : SK k v v2 :=
  ⟨h'.1.trans h.1, fun a h1 h2 h3 h4 => (h'.2.1 a h1 h2 h3 h4).trans (h.2.1 a h1 h2 h3 h4), fun f hf => (h'.2.2.1 f hf).trans (h.2.2.1 f hf), fun j hj => (h'.2.2.2 j hj).trans (h.2.2.2 j hj)⟩
theorem SK.down {k : Nat} {v v1 : xS} (h : SK (k + 1) v v1) : SK k v v1 :=
  ⟨h.1, fun a h1 h2 h3 h4 => h.2.1 a h1 h2 h3 (by omega), h.2.2.1, fun j hj => h.2.2.2 j (by omega)⟩
theorem SK.row {k a : Nat} {v v1 : xS} (h : Same [a] v v1) (ha : 92 + k < a) (ha2 : a ≤ 95) : SK k v v1 :=
  ⟨h.1, fun b h1 h2 h3 h4 => Same1 h (by omega), fun f _ => by rw [Same1 h (by omega)], fun j _ => by rw [Same1 h (by omega)]⟩
theorem BST.keep {v v1 : xS} {st : Nat × List Nat} (h : BST v st) (h1 : v1.1 90 6 = v.1 90 6) (h2 : v1.1 99 = v.1 99) : BST v1 st := ⟨by rw [h1]; exact h.1, fun j hj => by rw [h2]; exact h.2 j hj⟩
theorem TRD.keep {v v1 : xS} {pre : List Nat} (h : TRD v pre) (h1 : ∀ j, j < pre.length → v1.1 97 j = v.1 97 j) : TRD v1 pre := fun j hj => by rw [h1 j hj]; exact h j hj
theorem sPl_len {D : xD} {Gl : (Nat → Nat) → Bool} {N : Nat} : ∀ (m : Nat) (g : Nat → Nat) (br : Nat) (pre : List Nat) (st : Nat × List Nat), pre.length + m = N → (st.1 < 1000 → st.2.length = N) → ((sPl D Gl m g br pre st).1 < 1000 → (sPl D Gl m g br pre st).2.length = N)
  | 0, g, br, pre, st, hl, hs => by
    unfold sPl
    split
    · exact fun _ => by simpa using hl
    · exact hs
  | m + 1, g, br, pre, st, hl, hs => by
    rw [sPl]
    exact sIt_inv (f := fun p s => sPl D Gl m (eG D p g) (br + eB D p) (pre ++ [p]) s) (P := fun _ s => s.1 < 1000 → s.2.length = N) (n := 3 ^ db D) (s := st) hs (fun c s _ h => sPl_len m _ _ _ s (by simp; omega) h) _ (Nat.le_refl _)
section SEEK
variable {G : xG} {d : Nat} {z : xZ} {D : xD}
theorem ok_seek (B : Base z) (hD : DB D) {N : Nat} (hN : N ≤ 3) {K : xS → Prop} {Gl : (Nat → Nat) → Bool} {wr : Nat → (Nat → Nat) → Bool}
    (hK : ∀ v v1 : xS, K v → (∀ f, f ≠ 6 → v1.1 90 f = v.1 90 f) → v1.1 98 = v.1 98 → K v1) (hw0 : ∀ g, wr 0 g = Gl g) (hw : ∀ (l : List Nat) (g : Nat → Nat), Gl (sGo D l g) = true → wr l.length g = true)
    (hW : ∀ (d : Nat) (v : xS) (a m : Nat) (g : Nat → Nat) (Q : Int32 → xS → Prop), K v → LC v D → xin z a 10 10 → Gd v a D g → sm g (dn D) ≤ 90 → m ≤ 3 → (wr m g = true → Q 1 v) → (wr m g = false → Q 0 v) → oX2_isWithinReach G (d + 1) [.ref 90, .ref a, .int (nI m)] z v Q) :
    ∀ (m k : Nat) (v : xS) (g : Nat → Nat) (br : Nat) (pre : List Nat) (st : Nat × List Nat) (Q : xS → Prop), k + m = N → LC v D → K v → Gd v (92 + k) D g → sm g (dn D) ≤ 90 → pre.length = k → TRD v pre → (∀ p, p < 3 ^ db D → v.1 96 p = nI (eB D p)) → BST v st → st.1 ≤ 1000 → br ≤ 27 * k →
    (∀ v1, SK k v v1 → BST v1 (sPl D Gl m g br pre st) → Q v1) → oX2_seek G (d + m + 5) [.ref 90, .int (nI k), .int (nI N), .int (nI br)] z v Q := by
  have hn := hD.1
  have hb := hD.2.1
  have hp27 := pow3 hb
  intro m
  induction m with
  | zero =>
    intro k v g br pre st Q hk hL hKv hG hs hpre hT hBr hB hst hbr hq
    have hkN : k = N := by omega
    subst hkN
    refine vc_X2_seek B (bf (by rw [i32lt]; omega) (bt (by rw [i32le, nIi (by omega)]; show _ ≤ (3 : Int32).toInt; rw [show (3 : Int32).toInt = 3 by decide]; omega) ⟨fun c => ?_, fun c => ⟨vpN (by omega) (by omega), ?_⟩⟩))
    · rw [hB.1, i32le, nIi (by omega), nIi (by omega)] at c
      refine hq v (SK.rf _ _) ?_
      rw [sPl_skip]
      · exact hB
      · intro l _ _ _; omega
    · rw [hB.1, i32le, nIi (by omega), nIi (by omega)] at c
      rw [clN (by omega), pk_sub (Nat.le_refl k), Nat.sub_self]
      refine hW _ v _ 0 g _ hKv hL (xgrS B (by omega)).1 hG hs (by omega) (fun h => nb1 ?_) (fun h => nb0 ?_)
      · refine nf rfl (fun v6 e6 v7 e7 => ?_)
        subst e6
        have hS7 : v7 = wA (wV v 90 6 (nI br)) 99 (va_cpy ((wV v 90 6 (nI br)).1 97) ((wV v 90 6 (nI br)).1 99) 0 0 3) := by rw [e7, cl0, cl3]
        have f90 : ∀ f, f ≠ 6 → v7.1 90 f = v.1 90 f := fun f hf => by rw [hS7, wA_row, if_neg (by decide), wV_other _ _ _ _ _ hf]
        refine hq v7 ⟨by rw [hS7]; rfl, fun a h1 h2 h3 _ => by rw [hS7, wA_row, if_neg h3, wV_ne h1], f90, fun j _ => by rw [hS7, wA_row, if_neg (by decide), wV_ne (by decide)]⟩ ?_
        unfold sPl
        rw [if_pos ⟨by rw [← hw0]; exact h, by omega⟩]
        refine ⟨by rw [hS7, wA_row, if_neg (by decide), wV_at], fun j hj => ?_⟩
        rw [hS7, wA_row, if_pos rfl, cpyN (by dsimp only at hj; omega), wV_ne (by decide)]
        exact hT j hj
      · refine hq v (SK.rf _ _) ?_
        rw [sPl_skip]
        · exact hB
        · intro l hl _ hg
          have := hw l g hg
          rw [hl, h] at this
          exact absurd this (by decide)
  | succ m ih =>
    intro k v g br pre st Q hk hL hKv hG hs hpre hT hBr hB hst hbr hq
    obtain ⟨f, hf⟩ : ∃ f : Nat → Nat × List Nat → Nat × List Nat, f = fun p s => sPl D Gl m (eG D p g) (br + eB D p) (pre ++ [p]) s := ⟨_, rfl⟩
    have hfl : ∀ c, c ≤ 3 ^ db D → (sIt f c st).1 ≤ st.1 := fun c hc => by
      rw [hf]
      exact sIt_inv (P := fun _ s => s.1 ≤ st.1) (n := 3 ^ db D) (Nat.le_refl _) (fun c s _ hs => Nat.le_trans (sPl_le m _ _ _ s) hs) c hc
    have hLk : ∀ w, SK k v w → LC w D := fun w hw => by
      obtain ⟨a1, a2, a3, a4⟩ := hL
      refine ⟨?_, ?_, ?_, fun q hq => ?_⟩
      · rw [hw.2.1 30 (by decide) (by decide) (by decide) (by omega)]; exact a1
      · rw [hw.2.1 30 (by decide) (by decide) (by decide) (by omega)]; exact a2
      · rw [hw.2.1 30 (by decide) (by decide) (by decide) (by omega)]; exact a3
      · rw [hw.2.1 34 (by decide) (by decide) (by decide) (by omega), hw.2.1 32 (by decide) (by decide) (by decide) (by omega), hw.2.1 33 (by decide) (by decide) (by decide) (by omega)]; exact a4 q hq
    have hKk : ∀ w, SK k v w → K w := fun w hw => hK v w hKv hw.2.2.1 (hw.2.1 98 (by decide) (by decide) (by decide) (by omega))
    have hq1 : ∀ v1, SK k v v1 → BST v1 (sIt f (3 ^ db D) st) → Q v1 := by
      intro v1 h1 h2
      refine hq v1 h1 ?_
      rw [sPl, ← hf]
      exact h2
    have ek1 : nI k + 1 = nI (k + 1) := nI_1 k
    have vk := vpN (j := k) (n := 4) (by omega) (by omega)
    have vk3 := vpN (j := k) (n := 3) (by omega) (by omega)
    have vk1 := vpN (j := k + 1) (n := 4) (by omega) (by omega)
    have loop : ∀ (c p : Nat) (v1 : xS), p + c = 3 ^ db D → SK k v v1 → BST v1 (sIt f p st) → aX2_seek G (d + (m + 1) + 5) 73 [some (.ref 90), some (.int (nI k)), some (.int (nI N)), some (.int (nI br)), some (.int (nI (3 ^ db D))), some (.int (nI p)), none] [] z v1 Q := by
      intro c
      induction c with
      | zero =>
        intro p v1 hp hS hB1
        have ep : p = 3 ^ db D := by omega
        subst ep
        exact vc_X2_seek_73 B (bt (by rw [i32le]; omega) (hq1 v1 hS hB1))
      | succ c ihc =>
        intro p v1 hp hS hB1
        have hL1 := hLk v1 hS
        have e96 : v1.1 96 p = nI (eB D p) := by rw [hS.2.1 96 (by decide) (by decide) (by decide) (by omega)]; exact hBr p (by omega)
        have hebp := eB_le hD p
        have hsl := hfl p (by omega)
        have skip : f p (sIt f p st) = sIt f p st → ∀ v2, SK k v v2 → BST v2 (sIt f p st) → aX2_seek G (d + (m + 1) + 5) 73 [some (.ref 90), some (.int (nI k)), some (.int (nI N)), some (.int (nI br)), some (.int (nI (3 ^ db D))), some (.int (nI (p + 1))), none] [] z v2 Q := fun he v2 h1 h2 => ihc (p + 1) v2 (by omega) h1 (by rw [sIt, he]; exact h2)
        refine vc_X2_seek_73 B (bf (by rw [i32le, nIi (by omega), nIi (by omega)]; omega) (bf (by rw [i32le, nIi (by omega)]; show ¬ (27 : Int32).toInt ≤ _; rw [show (27 : Int32).toInt = 27 by decide]; omega) ⟨vpN (by omega) (by omega), ?_⟩))
        rw [clN (by omega), e96, nI_add, hB1.1, nI_1 p]
        refine ⟨fun c1 => ?_, fun c1 => skip ?_ v1 hS hB1⟩
        · rw [i32lt, nIi (by omega), nIi (by omega)] at c1
          rw [ek1]
          refine ⟨vk, vk1, fun v4 e4 => ⟨vk1, ?_⟩⟩
          rw [clN (by omega), clN (by omega)] at e4
          rw [clN (by omega)]
          have hG1 : Gd v1 (92 + k) D g := fun x hx => by rw [hS.2.1 _ (by omega) (by omega) (by omega) (by omega)]; exact hG x hx
          have hG4 : Gd v4 (92 + (k + 1)) D g := by rw [e4]; exact hG1.cpy hD
          have hS14 : Same [92 + (k + 1)] v1 v4 := by rw [e4]; exact (Same.rf _ _).wA (by simp)
          have hS4 : SK k v v4 := hS.trans (SK.row hS14 (by omega) (by omega))
          refine ok_isPlayedForUse B (hLk v4 hS4) hD (xgrS B (k := k + 1) (by omega)) hG4 hs (by omega) (fun v6 hI hS6 hG6 => nb1 ⟨vk3, fun v9 e9 => ?_⟩) (fun v6 hI hS6 => nb0 ?_)
          · rw [clN (by omega)] at e9
            have hS6' : SK k v v6 := hS4.trans (SK.row hS6 (by omega) (by omega))
            have f9 : ∀ a, a ≠ 97 → v9.1 a = v6.1 a := fun a ha => by rw [e9, wV_ne ha]
            have hS9 : SK k v v9 := hS6'.trans ⟨by rw [e9]; rfl, fun a h1 h2 h3 _ => f9 a h2, fun f _ => by rw [f9 90 (by decide)], fun j hj => by rw [e9, wV_other _ _ _ _ _ (by omega)]⟩
            have b9 : BST v9 (sIt f p st) := hB1.keep (by rw [f9 90 (by decide), Same1 hS6 (by omega), Same1 hS14 (by omega)]) (by rw [f9 99 (by decide), Same1 hS6 (by omega), Same1 hS14 (by omega)])
            have t9 : TRD v9 (pre ++ [p]) := by
              intro j hj
              rw [List.length_append, List.length_singleton, hpre] at hj
              by_cases hjk : j = k
              · rw [hjk, e9, wV_at]
                congr 1
                simp [List.getD, ← hpre]
              · rw [e9, wV_other _ _ _ _ _ hjk, hS6'.2.2.2 j (by omega)]
                rw [hT j (by omega)]
                congr 1
                simp [List.getD, List.getElem?_append_left (show j < pre.length by omega)]
            refine ih (k + 1) v9 (eG D p g) (br + eB D p) (pre ++ [p]) (sIt f p st) _ (by omega) (hLk v9 hS9) (hKk v9 hS9) (fun x hx => by rw [f9 _ (by omega)]; exact hG6 x hx) (by rw [sEvG_sm]; exact hs) (by simp [hpre]) t9 (fun q hq => by rw [hS9.2.1 96 (by decide) (by decide) (by decide) (by omega)]; exact hBr q hq) b9 (by omega) (by omega) (fun v10 hS10 hB10 => ?_)
            refine ihc (p + 1) v10 (by omega) (hS9.trans hS10.down) ?_
            rw [sIt, hf]
            rw [hf] at hB10
            exact hB10
          · have hS6' : SK k v v6 := hS4.trans (SK.row hS6 (by omega) (by omega))
            have b6 : BST v6 (sIt f p st) := hB1.keep (by rw [Same1 hS6 (by omega), Same1 hS14 (by omega)]) (by rw [Same1 hS6 (by omega), Same1 hS14 (by omega)])
            refine skip ?_ v6 hS6' b6
            obtain ⟨q, q1, q2, q3⟩ := idle_other hD (by omega : p < 3 ^ db D) hI
            rw [hf]
            dsimp only
            refine sPl_skip m _ _ _ _ (fun l hl hlp hg => ?_)
            rw [← q2] at hg
            have := sIt_all (D := D) (Gl := Gl) m g br pre st l hl hlp q1 (by omega : p ≤ 3 ^ db D) hg
            omega
        · rw [i32lt, nIi (by omega), nIi (by omega)] at c1
          rw [hf] at c1 ⊢
          dsimp only
          refine sPl_skip m _ _ _ _ (fun l hl hlp hg => ?_)
          omega
    refine vc_X2_seek B (bf (by rw [i32lt, nIi (by omega), nIi (by omega)]; omega) (bt (by rw [i32le, nIi (by omega)]; show _ ≤ (3 : Int32).toInt; rw [show (3 : Int32).toInt = 3 by decide]; omega) ⟨fun c => ?_, fun c => ⟨vk, ?_⟩⟩))
    · rw [hB.1, i32le, nIi (by omega), nIi (by omega)] at c
      refine hq v (SK.rf _ _) ?_
      rw [sPl_skip]
      · exact hB
      · intro l _ _ _; omega
    · rw [clN (by omega), pk_sub (by omega : k ≤ N), show N - k = m + 1 by omega]
      refine hW _ v _ (m + 1) g _ hKv hL (xgrS B (by omega)).1 hG hs (by omega) (fun h => nb1 ?_) (fun h => nb0 ?_)
      · refine nt (fun q => by have := nIinj (by omega) (by omega) q; omega) ?_
        refine ok_programs B hL hD ?_
        exact loop (3 ^ db D) 0 v (by omega) (SK.rf _ _) hB
      · refine hq v (SK.rf _ _) ?_
        rw [sPl_skip]
        · exact hB
        · intro l hl _ hg
          have := hw l g hg
          rw [hl, h] at this
          exact absurd this (by decide)
end SEEK
