/-! the reference keeps a land -/
section PKM
variable {G : xG} {d : Nat} {z : xZ} {v : xS} {R : xR}
theorem om_keep {Q : Int32 → xS → Prop} {j : Nat} (B : Base z) (hj : j < 3) (hD : DB (rD R)) (h60 : re R ≤ 60) (hM : MR v R) (h0 : dn (rD R) ≠ 0) (hq : ∀ v1, (∀ a, a ≠ 227 → v1.1 a = v.1 a) → (∀ q, (q < 920 * j ∨ 920 * j + 920 ≤ q) → v1.1 227 q = v.1 227 q) → KR v1 j R → Q (nI (re R)) v1) : oX6_keep G (d + 3) [.ref 200, .int (nI j)] z v Q := by
  have hn := hD.1
  have hb := hD.2.1
  have ee : ∀ c k : Nat, nI (920 * j) + nI c + nI k = nI (920 * j + c + k) := fun c k => by rw [nI_add, nI_add]
  have l122 : ∀ (c k : Nat) (w : xS), k + c = 840 → (∀ a, a ≠ 227 → w.1 a = v.1 a) → (∀ q, (q < 920 * j ∨ 920 * j + 920 ≤ q) → w.1 227 q = v.1 227 q) → w.1 227 (920 * j) = v.1 200 24 → w.1 227 (920 * j + 1) = v.1 200 15 → (∀ i, i < 3 → w.1 227 (920 * j + 2 + i) = v.1 212 i) → (∀ x, x < 10 → w.1 227 (920 * j + 5 + x) = v.1 210 x) → (∀ i, i < 3 → w.1 227 (920 * j + 5 + 10 + i) = v.1 214 i) → (∀ e, e < 60 → w.1 227 (920 * j + 20 + e) = v.1 225 e) → (∀ e, e < k → w.1 227 (920 * j + 80 + e) = v.1 226 e) → aX6_keep G (d + 3) 122 [some (.ref 200), some (.int (nI j)), some (.int (nI (920 * j))), some (.int (nI k))] [] z w Q := by
    intro c
    induction c with
    | zero =>
      intro k w hk a1 b0 b1 b2 a2 a3 a4 a5 a6
      have : k = 840 := by omega
      subst this
      refine vc_X6_keep_122 B (bt (by decide) ?_)
      rw [a1 200 (by decide), hM.1.2.2.2]
      refine hq w a1 b0 ⟨⟨b1.trans hM.1.2.2.2, b2.trans hM.1.2.2.1⟩, fun i hi => ⟨?_, ?_⟩, fun x hx => ?_, fun e he => ⟨?_, fun x hx => ?_, fun i hi => ?_⟩⟩
      · rw [a2 i (by omega)]; exact (hM.2.1 i hi).2.1
      · rw [show 920 * j + 15 + i = 920 * j + 5 + 10 + i by omega, a4 i (by omega)]; exact (hM.2.1 i hi).2.2.2
      · rw [a3 x (by omega)]; exact hM.2.2.1 x hx
      · rw [a5 e (by omega)]; exact (hM.2.2.2 e he).1
      · rw [a6 _ (by omega)]; exact (hM.2.2.2 e he).2.1 x hx
      · rw [a6 _ (by omega)]; exact (hM.2.2.2 e he).2.2 i hi
    | succ c ih =>
      intro k w hk a1 b0 b1 b2 a2 a3 a4 a5 a6
      refine vc_X6_keep_122 B (bf (by rw [i32le, i32_840, nIi (by omega)]; omega) ?_)
      rw [show (80 : Int32) = nI 80 from rfl, ee, nI_1]
      refine ⟨vpN (by omega) (by omega), vpN (by omega) (by omega), fun w2 e2 => ?_⟩
      rw [clN (by omega), clN (by omega), a1 226 (by decide)] at e2
      have r2 : ∀ q, q ≠ 920 * j + 80 + k → w2.1 227 q = w.1 227 q := fun q hq => by rw [e2, wV_other _ _ _ _ _ hq]
      refine ih (k + 1) w2 (by omega) (fun a ha => by rw [e2, wV_ne ha]; exact a1 a ha) (fun q hq => by rw [r2 q (by omega)]; exact b0 q hq) (by rw [r2 _ (by omega)]; exact b1) (by rw [r2 _ (by omega)]; exact b2) (fun i hi => by rw [r2 _ (by omega)]; exact a2 i hi) (fun x hx => by rw [r2 _ (by omega)]; exact a3 x hx) (fun i hi => by rw [r2 _ (by omega)]; exact a4 i hi) (fun e he => by rw [r2 _ (by omega)]; exact a5 e he) (fun e he => ?_)
      by_cases hek : e = k
      · rw [hek, e2, wV_at]
      · rw [r2 _ (by omega)]; exact a6 e (by omega)
  have l91 : ∀ (c k : Nat) (w : xS), k + c = 60 → (∀ a, a ≠ 227 → w.1 a = v.1 a) → (∀ q, (q < 920 * j ∨ 920 * j + 920 ≤ q) → w.1 227 q = v.1 227 q) → w.1 227 (920 * j) = v.1 200 24 → w.1 227 (920 * j + 1) = v.1 200 15 → (∀ i, i < 3 → w.1 227 (920 * j + 2 + i) = v.1 212 i) → (∀ x, x < 10 → w.1 227 (920 * j + 5 + x) = v.1 210 x) → (∀ i, i < 3 → w.1 227 (920 * j + 5 + 10 + i) = v.1 214 i) → (∀ e, e < k → w.1 227 (920 * j + 20 + e) = v.1 225 e) → aX6_keep G (d + 3) 91 [some (.ref 200), some (.int (nI j)), some (.int (nI (920 * j))), some (.int (nI k))] [] z w Q := by
    intro c
    induction c with
    | zero =>
      intro k w hk a1 b0 b1 b2 a2 a3 a4 a5
      have : k = 60 := by omega
      subst this
      exact vc_X6_keep_91 B (bt (by decide) (l122 840 0 w rfl a1 b0 b1 b2 a2 a3 a4 a5 (fun e he => absurd he (Nat.not_lt_zero _))))
    | succ c ih =>
      intro k w hk a1 b0 b1 b2 a2 a3 a4 a5
      refine vc_X6_keep_91 B (bf (by rw [i32le, i32_60, nIi (by omega)]; omega) ?_)
      rw [show (20 : Int32) = nI 20 from rfl, ee, nI_1]
      refine ⟨vpN (by omega) (by omega), vpN (by omega) (by omega), fun w2 e2 => ?_⟩
      rw [clN (by omega), clN (by omega), a1 225 (by decide)] at e2
      have r2 : ∀ q, q ≠ 920 * j + 20 + k → w2.1 227 q = w.1 227 q := fun q hq => by rw [e2, wV_other _ _ _ _ _ hq]
      refine ih (k + 1) w2 (by omega) (fun a ha => by rw [e2, wV_ne ha]; exact a1 a ha) (fun q hq => by rw [r2 q (by omega)]; exact b0 q hq) (by rw [r2 _ (by omega)]; exact b1) (by rw [r2 _ (by omega)]; exact b2) (fun i hi => by rw [r2 _ (by omega)]; exact a2 i hi) (fun x hx => by rw [r2 _ (by omega)]; exact a3 x hx) (fun i hi => by rw [r2 _ (by omega)]; exact a4 i hi) (fun e he => ?_)
      by_cases hek : e = k
      · rw [hek, e2, wV_at]
      · rw [r2 _ (by omega)]; exact a5 e (by omega)
  have l51 : ∀ (c k : Nat) (w : xS), k + c = 3 → (∀ a, a ≠ 227 → w.1 a = v.1 a) → (∀ q, (q < 920 * j ∨ 920 * j + 920 ≤ q) → w.1 227 q = v.1 227 q) → w.1 227 (920 * j) = v.1 200 24 → w.1 227 (920 * j + 1) = v.1 200 15 → (∀ i, i < k → w.1 227 (920 * j + 2 + i) = v.1 212 i) → aX6_keep G (d + 3) 51 [some (.ref 200), some (.int (nI j)), some (.int (nI (920 * j))), some (.int (nI k))] [] z w Q := by
    intro c
    induction c with
    | zero =>
      intro k w hk a1 b0 b1 b2 a2
      have : k = 3 := by omega
      subst this
      refine vc_X6_keep_51 B (bt (by decide) ?_)
      rw [show nI (920 * j) + 5 = nI (920 * j + 5) by rw [show (5 : Int32) = nI 5 from rfl, nI_add]]
      refine om_write B (bI_227 B) ⟨by decide, by decide⟩ (by decide) (by omega) (fun w2 hS g1 g2 g3 => ?_)
      exact l91 60 0 w2 rfl (fun a ha => by rw [hS.2 a (by simp; exact ha)]; exact a1 a ha) (fun q hq => by rw [g3 q (by omega)]; exact b0 q hq) (by rw [g3 _ (by omega)]; exact b1) (by rw [g3 _ (by omega)]; exact b2) (fun i hi => by rw [g3 _ (by omega)]; exact a2 i hi) (fun x hx => by rw [g1 x hx, a1 210 (by decide)]) (fun i hi => by rw [g2 i hi, a1 214 (by decide)]) (fun e he => absurd he (Nat.not_lt_zero _))
    | succ c ih =>
      intro k w hk a1 b0 b1 b2 a2
      refine vc_X6_keep_51 B (bf (by rw [i32le, i32_3, nIi (by omega)]; omega) ?_)
      rw [show (2 : Int32) = nI 2 from rfl, ee, nI_1]
      refine ⟨vpN (by omega) (by omega), vpN (by omega) (by omega), fun w2 e2 => ?_⟩
      rw [clN (by omega), clN (by omega), a1 212 (by decide)] at e2
      have r2 : ∀ q, q ≠ 920 * j + 2 + k → w2.1 227 q = w.1 227 q := fun q hq => by rw [e2, wV_other _ _ _ _ _ hq]
      refine ih (k + 1) w2 (by omega) (fun a ha => by rw [e2, wV_ne ha]; exact a1 a ha) (fun q hq => by rw [r2 q (by omega)]; exact b0 q hq) (by rw [r2 _ (by omega)]; exact b1) (by rw [r2 _ (by omega)]; exact b2) (fun i hi => ?_)
      by_cases hek : i = k
      · rw [hek, e2, wV_at]
      · rw [r2 _ (by omega)]; exact a2 i (by omega)
  refine vc_X6_keep B (om_in B (fun _ _ => nb1 ?_) (fun a => absurd ⟨by rw [i32_0, nIi (by omega)]; omega, by rw [i32_2, nIi (by omega)]; omega⟩ a))
  rw [e920, show nI (920 * j) + 1 = nI (920 * j + 1) from nI_1 _, clN (by omega), clN (by omega)]
  refine nt (by rw [hM.1.1]; exact fun q => h0 (nIinj (by omega) (by omega) q)) ⟨vpN (by omega) (by omega), fun v4 e4 => ⟨vpN (by omega) (by omega), fun v6 e6 => ?_⟩⟩
  have r6 : ∀ a, a ≠ 227 → v6.1 a = v.1 a := fun a ha => by rw [e6, wV_ne ha, e4, wV_ne ha]
  refine l51 3 0 v6 rfl r6 (fun q hq => ?_) ?_ ?_ (fun i hi => absurd hi (Nat.not_lt_zero _))
  · rw [e6, wV_other _ _ _ _ _ (by omega), e4, wV_other _ _ _ _ _ (by omega)]
  · rw [e6, wV_other _ _ _ _ _ (by omega), e4, wV_at]
  · rw [e6, wV_at, e4, wV_ne (by decide)]
end PKM
