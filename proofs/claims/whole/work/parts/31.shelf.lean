/-! Shelf: rows of numbers in numbered places -/
def WS (v : xS) (s p m : Nat) : Prop := (p ≤ 6 ∧ m ≤ 80) ∧ v.1 s 0 = nI m ∧ ∀ r, r < p → -1 ≤ (v.1 (s + 2) r).toInt ∧ (v.1 (s + 2) r).toInt ≤ m
section SHELF
variable {G : xG} {d : Nat} {z : xZ} {v : xS} {s p m : Nat}
theorem ok_names {Q : Int32 → xS → Prop} (B : Base z) (hs : xShelf z s p m) (hp : p ≤ 6) {x : Int32} (h1 : inR x p → Q 1 v) (h0 : ¬ inR x p → Q 0 v) : oX4_names G (d + 1) [.ref s, .int x] z v Q := by
  refine vc_X4_names B hs ⟨fun c => h0 ?_, fun c => ⟨fun c2 => h0 ?_, fun c2 => h1 ?_⟩⟩
  · rw [i32lt, i32_0] at c; unfold inR; omega
  · rw [i32le] at c2
    have : (Int32.ofNat p).toInt = p := nIi (by omega)
    unfold inR; omega
  · rw [i32lt, i32_0] at c
    rw [i32le] at c2
    have : (Int32.ofNat p).toInt = p := nIi (by omega)
    unfold inR; omega
theorem ok_sizeOf {Q : Int32 → xS → Prop} (B : Base z) (hs : xShelf z s p m) (hp : p ≤ 6) {j : Nat} (hj : j < p) (hq : Q (v.1 (s + 2) j) v) : oX4_sizeOf G (d + 1) [.ref s, .int (nI j)] z v Q := by
  have e1 : (nI j).toInt = j := nIi (by omega)
  have e2 : (Int32.ofNat p).toInt = p := nIi (by omega)
  refine vc_X4_sizeOf B hs (bf (by rw [i32lt, i32_0]; omega) (bf (by rw [i32le]; omega) ⟨vpN hj (by omega), ?_⟩))
  rw [clN (by omega)]
  exact hq
theorem ok_holds {Q : Int32 → xS → Prop} (B : Base z) (hs : xShelf z s p m) (W : WS v s p m) {j : Nat} (hj : j < p) (h1 : 0 ≤ (v.1 (s + 2) j).toInt → Q 1 v) (h0 : v.1 (s + 2) j = -1 → Q 0 v) : oX4_holds G (d + 2) [.ref s, .int (nI j)] z v Q := by
  refine vc_X4_holds B hs (ok_sizeOf B hs W.1.1 hj ⟨fun c => h0 ?_, fun c => h1 ?_⟩)
  · rw [i32lt, i32_0] at c
    have := W.2.2 j hj
    rw [i32eq, i32_m1]; omega
  · rw [i32lt, i32_0] at c; omega
theorem ok_reaches {Q : Int32 → xS → Prop} (B : Base z) (hs : xShelf z s p m) (hp : p ≤ 6) {j : Nat} (hj : j < p) {x : Int32} (h1 : 0 ≤ x.toInt → x.toInt < (v.1 (s + 2) j).toInt → Q 1 v) (h0 : ¬ (0 ≤ x.toInt ∧ x.toInt < (v.1 (s + 2) j).toInt) → Q 0 v) : oX4_reaches G (d + 2) [.ref s, .int (nI j), .int x] z v Q := by
  refine vc_X4_reaches B hs ⟨fun c => h0 ?_, fun c => ok_sizeOf B hs hp hj ⟨fun c2 => h0 ?_, fun c2 => h1 ?_ ?_⟩⟩
  · rw [i32lt, i32_0] at c; omega
  · rw [i32le] at c2; omega
  · rw [i32lt, i32_0] at c; omega
  · rw [i32le] at c2; omega
theorem ok_get {Q : Int32 → xS → Prop} (B : Base z) (hs : xShelf z s p m) (W : WS v s p m) {j : Nat} (hj : j < p) {x : Int32} (h1 : ∀ k, x = nI k → (k : Int) < (v.1 (s + 2) j).toInt → k < m → Q (v.1 (s + 3 + j) k) v) (h0 : ¬ (0 ≤ x.toInt ∧ x.toInt < (v.1 (s + 2) j).toInt) → Q 0 v) : oX4_get G (d + 3) [.ref s, .int (nI j), .int x] z v Q := by
  refine vc_X4_get B hs (ok_reaches B hs W.1.1 hj (fun c1 c2 => br1 ?_) (fun c => br0 (h0 c)))
  obtain ⟨k, e, e2, e3⟩ := i32nat c1
  subst e
  have := W.2.2 j hj
  have hp := W.1
  have hk : k < m := by omega
  refine ⟨vpN hj (by omega), vpN hk (by omega), ?_⟩
  rw [clN (by omega), clN (by omega)]
  exact h1 k rfl (by omega) hk
theorem ok_set {Q : xS → Prop} (B : Base z) (hs : xShelf z s p m) (W : WS v s p m) {j k : Nat} (hj : j < p) (hk : (k : Int) < (v.1 (s + 2) j).toInt) {x : Int32} (hq : Q (wV v (s + 3 + j) k x)) : oX4_set G (d + 3) [.ref s, .int (nI j), .int (nI k), .int x] z v Q := by
  have := W.2.2 j hj
  have hp := W.1
  have ek : (nI k).toInt = k := nIi (by omega)
  refine vc_X4_set B hs (ok_reaches B hs W.1.1 hj (fun c1 c2 => br1 ?_) (fun c => absurd c (by simp only [Classical.not_not]; omega)))
  refine ⟨vpN hj (by omega), vpN (by omega : k < m) (by omega), fun v5 e => ?_⟩
  rw [clN (by omega), clN (by omega)] at e
  subst e
  exact hq
/-- a row anew, filled -/
theorem ok_open {Q : xS → Prop} (B : Base z) (hs : xShelf z s p m) (W : WS v s p m) {j n : Nat} (hj : j < p) (hn : n ≤ m) {x : Int32} (hq : ∀ v1, Same [s + 2, s + 3 + j] v v1 → v1.1 (s + 2) = upd (v.1 (s + 2)) j (nI n) → (∀ k, k < n → v1.1 (s + 3 + j) k = x) → Q v1) : oX4_open G (d + 2) [.ref s, .int (nI j), .int (nI n), .int x] z v Q := by
  have hp := W.1
  have en : (nI n).toInt = n := nIi (by omega)
  have loop : ∀ (c i : Nat) (v1 : xS), i ≤ n → n - i = c → Same [s + 2, s + 3 + j] v v1 → v1.1 (s + 2) = upd (v.1 (s + 2)) j (nI n) → (∀ k, k < i → v1.1 (s + 3 + j) k = x) → aX4_open G (d + 2) 31 [some (.ref s), some (.int (nI j)), some (.int (nI n)), some (.int x), some (.int (nI i))] [] z v1 Q := by
    intro c
    induction c with
    | zero =>
      intro i v1 hi hc h1 h2 h3
      have ei : (nI i).toInt = i := nIi (by omega)
      exact vc_X4_open_31 B hs (bt (by rw [i32le]; omega) (hq v1 h1 h2 (fun k hk => h3 k (by omega))))
    | succ c ih =>
      intro i v1 hi hc h1 h2 h3
      have ei : (nI i).toInt = i := nIi (by omega)
      refine vc_X4_open_31 B hs (bf (by rw [i32le]; omega) ⟨vpN hj (by omega), vpN (by omega : i < m) (by omega), fun v3 e => ?_⟩)
      rw [clN (by omega), clN (by omega)] at e
      subst e
      rw [nI_1]
      refine ih (i + 1) _ (by omega) (by omega) (h1.wV (by simp)) ?_ (fun k hk => ?_)
      · rw [wV_ne (by omega)]; exact h2
      · by_cases hki : k = i
        · subst hki; exact wV_at _ _ _ _
        · rw [wV_other _ _ _ _ _ hki]; exact h3 k (by omega)
  have e0 : (nI 0 : Int32) = 0 := rfl
  refine vc_X4_open B hs (ok_names B hs W.1.1 (fun _ => br1 (bf (by rw [i32lt, i32_0]; omega) (bt (by rw [W.2.1, i32le, en, nIi (by omega)]; omega) ⟨vpN hj (by omega), fun v4 e => ?_⟩))) (fun c => absurd (inR_nI hj (by omega)) c))
  rw [clN (by omega)] at e
  subst e
  refine loop n 0 _ (Nat.zero_le _) (by omega) ((Same.rf _ _).wV (by simp)) wV_self (fun k hk => absurd hk (Nat.not_lt_zero _))
theorem ok_close {Q : xS → Prop} (B : Base z) (hs : xShelf z s p m) (hp : p ≤ 6) {j : Nat} (hj : j < p) (hq : Q (wV v (s + 2) j (-1))) : oX4_close G (d + 2) [.ref s, .int (nI j)] z v Q := by
  refine vc_X4_close B hs (ok_names B hs hp (fun _ => br1 ⟨vpN hj (by omega), fun v4 e => ?_⟩) (fun c => absurd (inR_nI hj (by omega)) c))
  rw [clN (by omega)] at e
  subst e
  exact hq
end SHELF
