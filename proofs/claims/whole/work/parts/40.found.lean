/-! Plan: isFound; Land: what is told, evenings truly played, undone -/
section FOUND
variable {G : xG} {d : Nat} {z : xZ} {v : xS} {D : xD} {g : Nat → Nat}
def scP : List Nat := [90, 92, 93, 94, 95, 96, 97, 99]
theorem ok_isFound {Q : Int32 → xS → Prop} (B : Base z) (hL : LC v D) (hD : DB D) (hG : Gd v 31 D g) (hs : sm g (dn D) ≤ 90) {N : Nat} (hN : N ≤ 3) {K : xS → Prop} {Gl : (Nat → Nat) → Bool} {wr : Nat → (Nat → Nat) → Bool}
    (hK : ∀ v v1 : xS, K v → (∀ f, f ≠ 6 → v1.1 90 f = v.1 90 f) → v1.1 98 = v.1 98 → K v1) (hw0 : ∀ g, wr 0 g = Gl g) (hw : ∀ (l : List Nat) (g : Nat → Nat), Gl (sGo D l g) = true → wr l.length g = true)
    (hW : ∀ (d : Nat) (v : xS) (a m : Nat) (g : Nat → Nat) (Q : Int32 → xS → Prop), K v → LC v D → xin z a 10 10 → Gd v a D g → sm g (dn D) ≤ 90 → m ≤ 3 → (wr m g = true → Q 1 v) → (wr m g = false → Q 0 v) → oX2_isWithinReach G (d + 1) [.ref 90, .ref a, .int (nI m)] z v Q)
    (hKv : K v) (h0 : ∀ v1, Same scP v v1 → K v1 → (sPl D Gl N g 0 [] (1000, [])).1 = 1000 → Q 0 v1) (h1 : ∀ v1, Same scP v v1 → K v1 → (sPl D Gl N g 0 [] (1000, [])).1 < 1000 → BST v1 (sPl D Gl N g 0 [] (1000, [])) → Q 1 v1) : oX2_isFound G (d + N + 6) [.ref 90, .int (nI N)] z v Q := by
  have hb := hD.2.1
  have hp27 := pow3 hb
  have hle := sPl_le (D := D) (Gl := Gl) N g 0 [] (1000, [])
  have fin : ∀ v1, Same scP v v1 → K v1 → v1.1 90 6 = nI 1000 → (∀ p, p < 3 ^ db D → v1.1 96 p = nI (eB D p)) → ∀ v2, v2 = wA v1 92 (va_cpy (v1.1 31) (v1.1 92) ((0 : Int32).toNatClampNeg) ((0 : Int32).toNatClampNeg) ((10 : Int32).toNatClampNeg)) → oX2_seek G (d + N + 5) [.ref 90, .int 0, .int (nI N), .int 0] z v2 (fun v2 => (((v2.1 90 6) = 1000 → Q 0 v2) ∧ (¬ (v2.1 90 6) = 1000 → Q 1 v2))) := by
    intro v1 hS hK1 h6 h96 v2 e2
    have hS2 : Same [92] v1 v2 := by rw [e2]; exact (Same.rf _ _).wA (by simp)
    have hS2' : Same scP v v2 := hS.trans (hS2.mono (by simp [scP]))
    have hG2 : Gd v2 (92 + 0) D g := by rw [e2]; exact (hG.same hS (by decide)).cpy hD
    have hL2 : LC v2 D := hL.keep hS2' (by decide) (by decide) (by decide) (by decide)
    have hK2 : K v2 := hK v1 v2 hK1 (fun f _ => by rw [Same1 hS2 (by decide)]) (Same1 hS2 (by decide))
    refine ok_seek B hD hN hK hw0 hw hW N 0 v2 g 0 [] (1000, []) _ (by omega) hL2 hK2 hG2 hs rfl (fun j hj => absurd hj (Nat.not_lt_zero _)) (fun p hp => by rw [Same1 hS2 (by decide)]; exact h96 p hp) ⟨by rw [Same1 hS2 (by decide)]; exact h6, fun j hj => absurd hj (Nat.not_lt_zero _)⟩ (Nat.le_refl _) (by omega) (fun v3 hS3 hB3 => ?_)
    have hS3' : Same scP v v3 := by
      refine ⟨hS3.1.trans hS2'.1, fun a ha => ?_⟩
      rw [hS3.2.1 a (by simp [scP] at ha; omega) (by simp [scP] at ha; omega) (by simp [scP] at ha; omega) (by simp [scP] at ha; omega)]
      exact hS2'.2 a ha
    have hK3 : K v3 := hK v2 v3 hK2 hS3.2.2.1 (hS3.2.1 98 (by decide) (by decide) (by decide) (by omega))
    refine ⟨fun c => h0 v3 hS3' hK3 ?_, fun c => h1 v3 hS3' hK3 ?_ hB3⟩
    · rw [hB3.1] at c
      exact nIinj (b := 1000) (by omega) (by omega) c
    · rw [hB3.1] at c
      have : (sPl D Gl N g 0 [] (1000, [])).1 ≠ 1000 := fun q => c (by rw [q]; rfl)
      omega
  have loop : ∀ (c p : Nat) (v1 : xS), p + c = 3 ^ db D → Same scP v v1 → K v1 → v1.1 90 6 = nI 1000 → (∀ q, q < p → v1.1 96 q = nI (eB D q)) → aX2_isFound G (d + N + 6) 17 [some (.ref 90), some (.int (nI N)), some (.int (nI (3 ^ db D))), some (.int (nI p))] [] z v1 Q := by
    intro c
    induction c with
    | zero =>
      intro p v1 hp hS hK1 h6 h96
      have ep : p = 3 ^ db D := by omega
      subst ep
      exact vc_X2_isFound_17 B (bt (by rw [i32le]; omega) (fin v1 hS hK1 h6 h96))
    | succ c ih =>
      intro p v1 hp hS hK1 h6 h96
      have hL1 : LC v1 D := hL.keep hS (by decide) (by decide) (by decide) (by decide)
      refine vc_X2_isFound_17 B (bf (by rw [i32le, nIi (by omega), nIi (by omega)]; omega) (bf (by rw [i32le, nIi (by omega)]; show ¬ (27 : Int32).toInt ≤ _; rw [show (27 : Int32).toInt = 27 by decide]; omega) (ok_breathOf B hL1 hD (by omega) ⟨vpN (by omega) (by omega), fun v8 e8 => ?_⟩)))
      rw [clN (by omega)] at e8
      have h98 : ∀ a, a ≠ 96 → v8.1 a = v1.1 a := fun a ha => by rw [e8, wV_ne ha]
      rw [nI_1]
      refine ih (p + 1) v8 (by omega) (by rw [e8]; exact hS.wV (by simp [scP])) (hK v1 v8 hK1 (fun f _ => by rw [h98 90 (by decide)]) (h98 98 (by decide))) (by rw [h98 90 (by decide)]; exact h6) (fun q hq => ?_)
      by_cases hqp : q = p
      · rw [hqp, e8, wV_at]
      · rw [e8, wV_other _ _ _ _ _ hqp]; exact h96 q (by omega)
  refine vc_X2_isFound B (fun v1 e1 => ?_)
  have hS1 : Same scP v v1 := by rw [e1]; exact (Same.rf _ _).wV (by simp [scP])
  have hK1 : K v1 := hK v v1 hKv (fun f hf => by rw [e1, wV_other _ _ _ _ _ hf]) (by rw [e1, wV_ne (by decide)])
  exact ok_programs B (hL.keep hS1 (by decide) (by decide) (by decide) (by decide)) hD (loop (3 ^ db D) 0 v1 (by omega) hS1 hK1 (by rw [e1, wV_at]; rfl) (fun q h => absurd h (Nat.not_lt_zero _)))
theorem ok_bandTells {Q : Int32 → xS → Prop} (B : Base z) (hL : LC v D) (hD : DB D) {i w : Nat} (hi : i < db D) (hw : w < 5) (hq : Q (if w = 0 then nI (dK D i) else if w = 1 then nI (dP D i) else if w = 2 then nI (dU D i) else if w = 3 then sHs D i (dn D) else v.1 35 i) v) : oX1_bandTells G (d + 5) [.ref 30, .int (nI i), .int (nI w)] z v Q := by
  have hb := hD.2.1
  obtain ⟨ek, eP, eu⟩ := hL.2.2.2 i hi
  have vi := vpN (j := i) (n := 3) (by omega) (by omega)
  refine vc_X1_bandTells B (ok_isBandN B hL hD hi (nb1 ⟨fun c => ⟨vi, ?_⟩, fun c => ⟨vi, ?_⟩, fun c => ⟨vi, ?_⟩, fun c => ⟨vi, ?_⟩, fun c => ?_⟩))
  · rw [nIi (by omega)] at c
    rw [if_neg (by omega), if_neg (by omega), if_neg (by omega), if_neg (by omega)] at hq
    rw [clN (by omega)]; exact hq
  · have := nIinj (b := 0) (by omega) (by omega) c
    subst this
    rw [clN (by omega), ek]; exact hq
  · have := nIinj (b := 1) (by omega) (by omega) c
    subst this
    rw [clN (by omega), eP]; exact hq
  · have := nIinj (b := 2) (by omega) (by omega) c
    subst this
    rw [clN (by omega), eu]; exact hq
  · have := nIinj (b := 3) (by omega) (by omega) c
    subst this
    exact ok_heardOn B hL hD hi hq
/-- an EVENING truly: what is noted ahead, what moved -/
def sMv (D : xD) (p : Nat) (g : Nat → Nat) (i : Nat) : Nat := (sTune D i (tn p i) (sEvG D p i g)).2
theorem ok_playTruly {Q : Int32 → xS → Prop} (B : Base z) (hL : LC v D) (hD : DB D) (hG : Gd v 31 D g) (hs : sm g (dn D) ≤ 90) {e p : Nat} (he : v.1 30 3 = nI e) (he2 : e < 60) (hp : p < 2147483648)
    (hq : ∀ v1, Same [30, 31, 35, 36, 37, 38] v v1 → (∀ f, f ≠ 3 → v1.1 30 f = v.1 30 f) → v1.1 30 3 = nI (e + 1) → Gd v1 31 D (eG D p g) → (∀ i, i < db D → v1.1 35 i = v.1 35 i + nI (sMv D p g i)) → v1.1 36 = upd (v.1 36) e (nI p) → v1.1 37 = va_cpy (v.1 31) (v.1 37) 0 (10 * e) 10 → v1.1 38 = va_cpy (v.1 35) (v.1 38) 0 (3 * e) 3 → Q (nI (eT D p g)) v1) : oX1_playTruly G (d + 4) [.ref 30, .int (nI p)] z v Q := by
  have hb := hD.2.1
  have hn := hD.1
  have e10 : nI e * 10 = nI (10 * e) := by rw [show (10 : Int32) = nI 10 from rfl, pk_mul, Nat.mul_comm]
  have e3 : nI e * 3 = nI (3 * e) := by rw [show (3 : Int32) = nI 3 from rfl, pk_mul, Nat.mul_comm]
  have hni : ∀ n : Nat, n < 1000 → ¬ nI n < 0 := fun n h => by rw [i32lt, i32_0, nIi (by omega)]; omega
  refine vc_X1_playTruly B (bt (by rw [he, i32lt, nIi (by omega)]; show _ < (60 : Int32).toInt; rw [show (60 : Int32).toInt = 60 by decide]; omega) ?_)
  rw [he, e10, clN (by omega), cl0, cl10]
  refine ⟨hni _ (by omega), by omega, fun v3 e3' => ?_⟩
  have he3 : v3.1 30 3 = nI e := by rw [e3', wA_row, if_neg (by decide)]; exact he
  rw [he3, e3, clN (by omega), cl3]
  refine ⟨hni _ (by omega), by omega, fun v6 e6 => ?_⟩
  have he6 : v6.1 30 3 = nI e := by rw [e6, wA_row, if_neg (by decide)]; exact he3
  rw [he6]
  refine ⟨vpN (by omega) (by omega), fun v8 e8 v9 e9 => ?_⟩
  rw [clN (by omega)] at e8
  have he8 : v8.1 30 3 = nI e := by rw [e8, wV_ne (by decide)]; exact he6
  rw [he8, nI_1] at e9
  have r37 : v9.1 37 = va_cpy (v.1 31) (v.1 37) 0 (10 * e) 10 := by rw [e9, wV_ne (by decide), e8, wV_ne (by decide), e6, wA_row, if_neg (by decide), e3', wA_row, if_pos rfl]
  have r35 : v9.1 35 = v.1 35 := by rw [e9, wV_ne (by decide), e8, wV_ne (by decide), e6, wA_row, if_neg (by decide), e3', wA_row, if_neg (by decide)]
  have r38 : v9.1 38 = va_cpy (v.1 35) (v.1 38) 0 (3 * e) 3 := by rw [e9, wV_ne (by decide), e8, wV_ne (by decide), e6, wA_row, if_pos rfl, e3', wA_row, if_neg (by decide), wA_row, if_neg (by decide)]
  have r36 : v9.1 36 = upd (v.1 36) e (nI p) := by rw [e9, wV_ne (by decide), e8, wV_self, e6, wA_row, if_neg (by decide), e3', wA_row, if_neg (by decide)]
  have r30 : ∀ f, f ≠ 3 → v9.1 30 f = v.1 30 f := fun f hf => by rw [e9, wV_other _ _ _ _ _ hf, e8, wV_ne (by decide), e6, wA_row, if_neg (by decide), e3', wA_row, if_neg (by decide)]
  have hS9 : Same [30, 31, 35, 36, 37, 38] v v9 := by rw [e9, e8, e6, e3']; exact ((((Same.rf _ _).wA (by simp)).wA (by simp)).wV (by simp)).wV (by simp)
  have r33 : v9.1 30 3 = nI (e + 1) := by rw [e9, wV_at]
  have hLof : ∀ w : xS, (∀ f, f ≠ 3 → w.1 30 f = v.1 30 f) → w.1 32 = v.1 32 → w.1 33 = v.1 33 → w.1 34 = v.1 34 → LC w D := fun w w0 w1 w2 w3 => by
    obtain ⟨a1, a2, a3, a4⟩ := hL
    refine ⟨?_, ?_, ?_, fun i hi => ?_⟩
    · rw [w0 0 (by decide)]; exact a1
    · rw [w0 1 (by decide)]; exact a2
    · rw [w0 2 (by decide)]; exact a3
    · rw [w1, w2, w3]; exact a4 i hi
  have loop : ∀ (c m : Nat) (v1 : xS), m ≤ db D → db D - m = c → Same [31, 35] v9 v1 → Gd v1 31 D (sEvG D p m g) → (∀ i, i < m → v1.1 35 i = v.1 35 i + nI (sMv D p g i)) → (∀ i, m ≤ i → v1.1 35 i = v.1 35 i) → aX1_playTruly G (d + 4) 75 [some (.ref 30), some (.int (nI p)), some (.int (nI (sEvT D p m g))), some (.int (nI m)), none] [] z v1 Q := by
    intro c
    induction c with
    | zero =>
      intro m v1 hm hc hS hG1 h35 h35'
      have em : m = db D := by omega
      subst em
      have k30 : v1.1 30 = v9.1 30 := hS.2 30 (by decide)
      have hL1 : LC v1 D := hLof v1 (fun f hf => by rw [k30]; exact r30 f hf) (by rw [hS.2 32 (by decide)]; exact hS9.2 32 (by decide)) (by rw [hS.2 33 (by decide)]; exact hS9.2 33 (by decide)) (by rw [hS.2 34 (by decide)]; exact hS9.2 34 (by decide))
      refine vc_X1_playTruly_75 B (bt (by rw [hL1.2.1, i32le]; omega) (hq v1 (hS9.trans (hS.mono (by simp))) (fun f hf => by rw [k30]; exact r30 f hf) (by rw [k30]; exact r33) hG1 h35 ?_ ?_ ?_))
      · rw [hS.2 36 (by decide)]; exact r36
      · rw [hS.2 37 (by decide)]; exact r37
      · rw [hS.2 38 (by decide)]; exact r38
    | succ c ih =>
      intro m v1 hm hc hS hG1 h35 h35'
      have k30 : v1.1 30 = v9.1 30 := hS.2 30 (by decide)
      have hL1 : LC v1 D := hLof v1 (fun f hf => by rw [k30]; exact r30 f hf) (by rw [hS.2 32 (by decide)]; exact hS9.2 32 (by decide)) (by rw [hS.2 33 (by decide)]; exact hS9.2 33 (by decide)) (by rw [hS.2 34 (by decide)]; exact hS9.2 34 (by decide))
      have vm := vpN (j := m) (n := 3) (by omega) (by omega)
      refine vc_X1_playTruly_75 B (bf (by rw [hL1.2.1, i32le, nIi (by omega), nIi (by omega)]; omega) (ok_tuneOf B hp (by omega) (ok_playTune B hL1 hD (xgr31 B) hG1 (by rw [sEvG_sm]; exact hs) (by omega) (tn_lt p m) (fun v3 hS3 hG3 => ⟨vm, vm, fun v7 e7 => ?_⟩))))
      rw [clN (by omega)] at e7
      rw [nI_add, nI_1]
      have h3 : v3.1 35 = v1.1 35 := Same1 hS3 (by decide)
      refine ih (m + 1) v7 (by omega) (by omega) ?_ ?_ ?_ ?_
      · rw [e7]; exact (hS.trans (hS3.mono (by simp))).wV (by simp)
      · intro x hx; rw [e7, wV_ne (by decide)]; exact hG3 x hx
      · intro i hi
        by_cases him : i = m
        · rw [him, e7, wV_at, h3, h35' m (Nat.le_refl _)]; rfl
        · rw [e7, wV_other _ _ _ _ _ him, h3]; exact h35 i (by omega)
      · intro i hi
        rw [e7, wV_other _ _ _ _ _ (by omega), h3]; exact h35' i (by omega)
  exact loop (db D) 0 v9 (Nat.zero_le _) (by omega) (Same.rf _ _) (fun x hx => by rw [e9, wV_ne (by decide), e8, wV_ne (by decide), e6, wA_row, if_neg (by decide), e3', wA_row, if_neg (by decide)]; exact hG x hx) (fun i h => absurd h (Nat.not_lt_zero _)) (fun i _ => by rw [r35])
theorem ok_takeBack {Q : Int32 → xS → Prop} (B : Base z) {e n : Nat} (he : v.1 30 3 = nI e) (he2 : e ≤ 60) (hn : n ≤ e) (h0 : n = e → Q 0 v) (h1 : n < e → ∀ v1, Same [30, 31, 35] v v1 → (∀ f, f ≠ 3 → v1.1 30 f = v.1 30 f) → v1.1 30 3 = nI n → v1.1 31 = va_cpy (v.1 37) (v.1 31) (10 * n) 0 10 → v1.1 35 = va_cpy (v.1 38) (v.1 35) (3 * n) 0 3 → Q (nI (e - n)) v1) : oX1_takeBack G (d + 1) [.ref 30, .int (nI n)] z v Q := by
  have e10 : nI n * 10 = nI (10 * n) := by rw [show (10 : Int32) = nI 10 from rfl, pk_mul, Nat.mul_comm]
  have e3 : nI n * 3 = nI (3 * n) := by rw [show (3 : Int32) = nI 3 from rfl, pk_mul, Nat.mul_comm]
  have hni : ∀ n : Nat, n < 1000 → ¬ nI n < 0 := fun n h => by rw [i32lt, i32_0, nIi (by omega)]; omega
  refine vc_X1_takeBack B (bf (hni n (by omega)) ?_)
  rw [he, e10, e3]
  refine ⟨fun c => h0 ?_, fun c => ?_⟩
  · rw [i32le, nIi (by omega), nIi (by omega)] at c; omega
  · rw [i32le, nIi (by omega), nIi (by omega)] at c
    refine bt (by rw [i32lt, nIi (by omega)]; show _ < (60 : Int32).toInt; rw [show (60 : Int32).toInt = 60 by decide]; omega) ⟨hni _ (by omega), ?_, fun v3 e3' => ⟨hni _ (by omega), ?_, fun v6 e6 v7 e7 => ?_⟩⟩
    · rw [clN (by omega), cl10]; omega
    · rw [clN (by omega), cl3]; omega
    · rw [clN (by omega), cl0, cl10] at e3'
      rw [clN (by omega), cl0, cl3] at e6
      have h630 : v6.1 30 = v.1 30 := by rw [e6, wA_row, if_neg (by decide), e3', wA_row, if_neg (by decide)]
      rw [h630, he, pk_sub hn]
      refine h1 (by omega) v7 (by rw [e7, e6, e3']; exact (((Same.rf _ _).wA (by simp)).wA (by simp)).wV (by simp)) (fun f hf => by rw [e7, wV_other _ _ _ _ _ hf, h630]) (by rw [e7, wV_at]) ?_ ?_
      · rw [e7, wV_ne (by decide), e6, wA_row, if_neg (by decide), e3', wA_row, if_pos rfl]
      · rw [e7, wV_ne (by decide), e6, wA_row, if_pos rfl, e3', wA_row, if_neg (by decide), wA_row, if_neg (by decide)]
end FOUND
