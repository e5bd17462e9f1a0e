/-! what holds behind both constructors -/
theorem RF_lt {a k b : Nat} (h : RF a k = some b) : k < 50 := by
  rcases Nat.lt_or_ge k 50 with hk | hk
  · exact hk
  · exfalso
    have hS : SH (200 + k) = (99, 0) := by
      unfold SH
      simp [show ¬ 200 + k < 10 by omega, show ¬ 200 + k < 20 by omega, show ¬ 200 + k < 30 by omega, show ¬ 200 + k < 40 by omega, show ¬ 200 + k < 50 by omega, show ¬ 200 + k < 60 by omega, show ¬ 200 + k < 70 by omega, show ¬ 200 + k < 90 by omega, show ¬ 200 + k < 100 by omega, show ¬ 200 + k < 110 by omega, show ¬ 200 + k < 200 by omega, show ¬ 200 + k < 250 by omega]
    unfold RF at h
    rw [hS] at h
    simp [show ¬ k = 0 by omega, show ¬ k = 1 by omega, show ¬ k = 2 by omega, show ¬ k = 3 by omega, show ¬ k = 4 by omega, show ¬ k = 5 by omega, show ¬ k = 6 by omega, show ¬ k = 7 by omega, show ¬ k = 8 by omega, show ¬ k < 12 by omega, show ¬ k < 6 by omega, show ¬ k < 4 by omega, show ¬ k < 7 by omega] at h
theorem bF_1 : ∀ a, a ∈ xBase → a ∈ zF.1 := by decide +kernel
theorem bF_2 : ∀ a, a ∈ xBase → a ≠ 100 → ∀ k, k < 50 → (RF a k = none ∨ zF.2 a k = RF a k) := by decide +kernel
theorem bF : Base zF := by
  refine ⟨bF_1, fun a ha h1 k b hb => ?_⟩
  rcases bF_2 a ha h1 k (RF_lt hb) with q | q
  · rw [q] at hb; exact absurd hb (by simp)
  · rw [q]; exact hb
theorem nF : ∀ j, j < 3 → zF.2 100 j = none := by decide +kernel
theorem ltF : ∀ a, a ∈ zF.1 → a < 300 := by decide +kernel
theorem keF : ∀ j, j < 3 → ∀ k, k < 9 → 40 + 10 * j + k ∉ zF.1 := by decide +kernel
theorem ZZ_F : ZZ zF := ⟨bF, zc_zF, ltF, fun j hj _ k hk => keF j hj k hk⟩
def R0 : xR := ((0, 0, 0, fun _ => 0, fun _ => 0, fun _ => 0), fun _ => 0, 0, fun _ => 0, fun _ => 0, fun _ _ => 0, fun _ _ => 0)
theorem vF_CR : vF.1 30 0 = nI 0 ∧ vF.1 30 1 = nI 0 ∧ vF.1 30 2 = nI 0 ∧ vF.1 30 3 = nI 0 := by decide +kernel
theorem vF_MR : vF.1 200 8 = nI 0 ∧ vF.1 200 9 = nI 0 ∧ vF.1 200 15 = nI 0 ∧ vF.1 200 24 = nI 0 := by decide +kernel
theorem vF_K : ∀ j, j < 3 → vF.1 101 j = 0 ∧ vF.1 227 (920 * j) = -9 := by decide +kernel
theorem vF_S1 : vF.1 1 0 = nI 40 ∧ ∀ r, r < 6 → vF.1 3 r = -1 ∧ vF.1 203 r = -9 := by decide +kernel
theorem vF_S10 : vF.1 10 0 = nI 80 ∧ ∀ r, r < 4 → vF.1 12 r = -1 ∧ vF.1 206 r = -9 := by decide +kernel
theorem vF_F : vF.1 0 9 = vF.1 200 0 ∧ (∀ f, f < 6 → vF.1 102 f = vF.1 201 f) ∧ vF.1 0 10 = vF.1 200 2 := by decide +kernel
theorem Inv_F : InvR zF vF R0 := by
  have no : ∀ {i : Nat} {P : Prop}, i < 0 → P := fun h => absurd h (Nat.not_lt_zero _)
  refine ⟨⟨fun j hj => Or.inl (nF j hj), ⟨⟨by decide, by decide, by decide, fun i hi => no hi⟩, Nat.zero_le _, Nat.zero_le _, fun k hk => no hk⟩, ⟨vF_CR, fun i hi => no hi, fun x hx => no hx, fun k hk => no hk⟩, ⟨vF_MR, fun i hi => no hi, fun x hx => no hx, fun k hk => no hk⟩, fun j hj => Or.inl (vF_K j hj), ⟨vF_S1.1, fun r hr => Or.inl (vF_S1.2 r hr)⟩, ⟨vF_S10.1, fun r hr => Or.inl (vF_S10.2 r hr)⟩⟩, ⟨vF_F.1, fun f _ h5 => vF_F.2.1 f (by omega)⟩, vF_F.2.2⟩
