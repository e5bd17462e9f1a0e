/-! pairs: season -/
def nL (n : Nat) : Int64 := Int64.ofNat n
theorem nLi {n : Nat} (h : n < 9223372036854775808) : (nL n).toInt = (n : Int) := lg_ofNat_toInt (by omega)
theorem i64eq {a b : Int64} (h : a.toInt = b.toInt) : a = b := Int64.toInt_inj.mp h
theorem nL_mul (a b : Nat) : nL a * nL b = nL (a * b) := (Int64.ofNat_mul a b).symm
theorem nL_add (a b : Nat) : nL a + nL b = nL (a + b) := (Int64.ofNat_add a b).symm
theorem nL_div {a b : Nat} (ha : a < 9223372036854775808) (hb0 : 0 < b) (hb : b < 9223372036854775808) : nL a / nL b = nL (a / b) := by
  have hq : a / b < 9223372036854775808 := Nat.lt_of_le_of_lt (Nat.div_le_self a b) ha
  apply i64eq
  rw [lg_ldiv_nonneg (by rw [nLi ha]; omega) (by rw [nLi hb]; omega), nLi ha, nLi hb, nLi hq, Int.natCast_ediv]
theorem nL_rem {a b : Nat} (ha : a < 9223372036854775808) (hb0 : 0 < b) (hb : b < 9223372036854775808) : nL a - nL a / nL b * nL b = nL (a % b) := by
  rw [nL_div ha hb0 hb, nL_mul]
  have h1 : a % b + a / b * b = a := by rw [Nat.mul_comm]; exact Nat.mod_add_div a b
  have h2 : nL a = nL (a % b) + nL (a / b * b) := by rw [nL_add, h1]
  rw [h2, Int64.add_sub_cancel]
theorem nI64 {n : Nat} (h : n < 2147483648) : (nI n).toInt64 = nL n := by
  apply i64eq
  rw [Int32.toInt_toInt64, nIi h, nLi (by omega)]
theorem nL32 {n : Nat} (h : n < 2147483648) : (nL n).toInt32 = nI n := by rw [← nI64 h, lg_l2i_i2l]
theorem nLinj {a b : Nat} (ha : a < 9223372036854775808) (hb : b < 9223372036854775808) (h : nL a = nL b) : a = b := by
  have := congrArg Int64.toInt h
  rw [nLi ha, nLi hb] at this
  omega
/-- the frost by a number; the land with it -/
def frF (m n : Nat) : Nat := if m / 128 % 2 = 1 then 2 ^ (m / 256 % n) else 0
def frR (F : Nat) (R : xR) : xR := ((dn (rD R), db (rD R), F, (rD R).2.2.2.1, (rD R).2.2.2.2.1, (rD R).2.2.2.2.2), R.2)
def nxt (m : Nat) : Nat := 48271 * m % 2147483647
/-- behind k evenings of a season: the number, the land, inches -/
def sSe (R : xR) (m : Nat) : Nat → Nat × xR × Nat
  | 0 => (m, R, 0)
  | k + 1 => (nxt (sSe R m k).1, eveR (nxt (sSe R m k).1 % 3 ^ db (rD R)) (frR (frF (nxt (sSe R m k).1) (dn (rD R))) (sSe R m k).2.1), (sSe R m k).2.2 + eT (rD (frR (frF (nxt (sSe R m k).1) (dn (rD R))) (sSe R m k).2.1)) (nxt (sSe R m k).1 % 3 ^ db (rD R)) (rg (sSe R m k).2.1))
theorem frF_lt {m n : Nat} (hn : 0 < n) : frF m n < 2 ^ n := by
  unfold frF
  split
  · exact Nat.pow_lt_pow_right (by decide) (Nat.mod_lt _ hn)
  · exact Nat.one_le_pow _ _ (by decide)
theorem OKR.fr {R : xR} {F : Nat} (h : OKR R) (hF : F < 2 ^ dn (rD R)) : OKR (frR F R) := ⟨⟨h.1.1, h.1.2.1, hF, h.1.2.2.2⟩, h.2.1, h.2.2.1, h.2.2.2⟩
theorem sSe_ok {R : xR} {m : Nat} (h : OKR R) (hn : 0 < dn (rD R)) (hm : m < 2147483647) : ∀ k, re R + k ≤ 60 → OKR (sSe R m k).2.1 ∧ LK (rD (sSe R m k).2.1) (rD R) ∧ re (sSe R m k).2.1 = re R + k ∧ (sSe R m k).1 < 2147483647
  | 0, _ => ⟨h, LK.rf _, rfl, hm⟩
  | k + 1, hk => by
    obtain ⟨a, b, c, e⟩ := sSe_ok h hn hm k (by omega)
    have en : dn (rD (sSe R m k).2.1) = dn (rD R) := b.1.symm
    refine ⟨(a.fr (by rw [en]; exact frF_lt hn)).eve (by show re (sSe R m k).2.1 < 60; omega), b, ?_, Nat.mod_lt _ (by decide)⟩
    show re (sSe R m k).2.1 + 1 = re R + (k + 1)
    omega
section PSEA
variable {G : xG} {d : Nat} {z : xZ} {v : xS} {R : xR}
theorem CR.frost {v1 : xS} {F : Nat} (h : CR v 30 R) (e : v1 = wV v 30 2 (nI F)) : CR v1 30 (frR F R) := by
  obtain ⟨⟨a0, a1, a2, a3⟩, b, c, f⟩ := h
  subst e
  refine ⟨⟨?_, ?_, wV_at _ _ _ _, ?_⟩, fun i hi => ?_, fun x hx => ?_, fun k hk => ?_⟩
  · rw [wV_other _ _ _ _ _ (by decide)]; exact a0
  · rw [wV_other _ _ _ _ _ (by decide)]; exact a1
  · rw [wV_other _ _ _ _ _ (by decide)]; exact a3
  · rw [wV_ne (by decide), wV_ne (by decide), wV_ne (by decide), wV_ne (by decide)]; exact b i hi
  · rw [wV_ne (by decide)]; exact c x hx
  · rw [wV_ne (by decide), wV_ne (by decide), wV_ne (by decide)]; exact f k hk
theorem MR.frost {v1 : xS} {F : Nat} (h : MR v R) (e : v1 = wV v 200 15 (nI F)) : MR v1 (frR F R) := by
  obtain ⟨⟨a0, a1, a2, a3⟩, b, c, f⟩ := h
  subst e
  refine ⟨⟨?_, ?_, wV_at _ _ _ _, ?_⟩, fun i hi => ?_, fun x hx => ?_, fun k hk => ?_⟩
  · rw [wV_other _ _ _ _ _ (by decide)]; exact a0
  · rw [wV_other _ _ _ _ _ (by decide)]; exact a1
  · rw [wV_other _ _ _ _ _ (by decide)]; exact a3
  · rw [wV_ne (by decide), wV_ne (by decide), wV_ne (by decide), wV_ne (by decide)]; exact b i hi
  · rw [wV_ne (by decide)]; exact c x hx
  · rw [wV_ne (by decide), wV_ne (by decide)]; exact f k hk
theorem nxtL {m : Nat} (hm : m < 2147483648) : (48271 : Int64) * nL m - (48271 : Int64) * nL m / 2147483647 * 2147483647 = nL (nxt m) := by
  rw [show (48271 : Int64) = nL 48271 from rfl, show (2147483647 : Int64) = nL 2147483647 from rfl, nL_mul, nL_rem (by omega) (by decide) (by decide)]
  rfl
theorem bitL {m : Nat} (hm : m < 2147483648) : nL m / 128 - nL m / 128 / 2 * 2 = nL (m / 128 % 2) := by
  rw [show (128 : Int64) = nL 128 from rfl, show (2 : Int64) = nL 2 from rfl, nL_div (by omega) (by decide) (by decide), nL_rem (by omega) (by decide) (by decide)]
theorem spotL {m n : Nat} (hm : m < 2147483648) (hn0 : 0 < n) (hn : n ≤ 10) : (1 : Int32) <<< ((nL m / 256 - nL m / 256 / (nI n).toInt64 * (nI n).toInt64).toInt32 &&& 31) = nI (2 ^ (m / 256 % n)) := by
  have h1 := Nat.mod_lt (m / 256) hn0
  rw [nI64 (by omega), show (256 : Int64) = nL 256 from rfl, nL_div (by omega) (by decide) (by decide), nL_rem (by omega) hn0 (by omega), nL32 (by omega), shl1 _ (by omega)]
theorem progL {m p : Nat} (hm : m < 2147483648) (hp0 : 0 < p) (hp : p ≤ 27) : (nL m - nL m / (nI p).toInt64 * (nI p).toInt64).toInt32 = nI (m % p) := by
  have h1 := Nat.mod_lt m hp0
  rw [nI64 (by omega), nL_rem (by omega) hp0 (by omega), nL32 (by omega)]
theorem i64p0 {p : Nat} (hp0 : 0 < p) (hp : p ≤ 27) : ¬ (nI p).toInt64 = 0 := fun q => by
  rw [nI64 (by omega), show (0 : Int64) = nL 0 from rfl] at q
  have := nLinj (by omega) (by omega) q
  omega
theorem ok_frostByLot {Q : Int32 → xS → Prop} {D : xD} (B : Base z) (hL : LC v D) (hD : DB D) (hn0 : 0 < dn D) {m : Nat} (hm : m < 2147483648) (hq : Q (nI (frF m (dn D))) v) : oX5_frostByLot G (d + 1) [.ref 0, .long (nL m)] z v Q := by
  have hn := hD.1
  unfold frF at hq
  refine vc_X5_frostByLot B (bf (by rw [hL.1]; exact fun q => by have := nIinj (b := 0) (by omega) (by omega) q; omega) ?_)
  rw [hL.1, bitL hm, spotL hm hn0 hn]
  refine ⟨fun q => ⟨i64p0 hn0 (by omega), ?_⟩, fun q => ?_⟩
  · rw [lg_cmp_eq, show (0 : Int64) = nL 0 from rfl] at q
    rw [if_pos (by have : m / 128 % 2 ≠ 0 := fun w => q (by rw [w]); omega)] at hq
    exact hq
  · rw [lg_cmp_eq, show (0 : Int64) = nL 0 from rfl] at q
    have := nLinj (by omega) (by omega) q
    rw [if_neg (by omega)] at hq
    exact hq
theorem pr_season (B : Base z) (h : InvR z v R) {x y : Int32} : oX5_season G (d + 16) [.ref 0, .int x, .int y] z v (fun r v1 => oX6_season G (d + 16) [.ref 200, .int x, .int y] z v1 (fun r' v2 => Pr z r r' v2)) := by
  have I := h.1
  have hn := I.D.1
  have hO := I.2.1
  have he60 := hO.2.2.1
  have hp27 := pow3 I.D.2.1
  have hp1 : 1 ≤ 3 ^ db (rD R) := Nat.one_le_pow _ _ (by decide)
  have imax : (2147483646 : Int32).toInt = 2147483646 := by decide
  have mbad : ¬ ((1 ≤ x.toInt ∧ x.toInt ≤ 40) ∧ (1 ≤ y.toInt ∧ y.toInt ≤ 2147483646)) → oX6_season G (d + 16) [.ref 200, .int x, .int y] z v (fun r' v2 => Pr z (-1) r' v2) := fun hw =>
    vc_X6_season B (om_in B (fun a b => br1 (om_in B (fun a2 b2 => absurd ⟨⟨by rw [i32_1] at a; exact a, by rw [i32_40] at b; exact b⟩, ⟨by rw [i32_1] at a2; exact a2, by rw [imax] at b2; exact b2⟩⟩ hw) (fun _ => nb0 (Pr.mk rfl h)))) (fun _ => br0 (Pr.mk rfl h)))
  refine vc_X5_season B ⟨fun q => mbad (by rw [i32lt, i32_1] at q; omega), fun q => ⟨fun q2 => mbad (by rw [i32lt, i32_40] at q2; omega), fun q2 => ⟨fun q3 => mbad (by rw [i32lt, i32_1] at q3; omega), fun q3 => ⟨fun q4 => ?_, fun q4 => mbad (by rw [i32le, imax] at q4; omega)⟩⟩⟩⟩
  rw [i32lt, i32_1] at q q3
  rw [i32lt, i32_40] at q2
  rw [i32le, imax] at q4
  obtain ⟨n, en, en2, _⟩ := i32nat (x := x) (by omega)
  obtain ⟨m, em, em2, _⟩ := i32nat (x := y) (by omega)
  have hn1 : 1 ≤ n ∧ n ≤ 40 := by omega
  have hm1 : 1 ≤ m ∧ m ≤ 2147483646 := by omega
  subst en em
  -- the reference comes to its loop
  have model : ∀ (u : xS) (Q : Int32 → xS → Prop), u.1 200 8 = nI (dn (rD R)) → u.1 200 24 = nI (re R) → (dn (rD R) = 0 → Q (-4) u) → (dn (rD R) ≠ 0 → 60 < re R + n → Q (-2) u) → (dn (rD R) ≠ 0 → re R + n ≤ 60 → aX6_season G (d + 16) 56 [some (.ref 200), some (.int (nI n)), some (.int (nI m)), some (.long (nL m)), none, some (.int 0), some (.int 0)] [] z u Q) → oX6_season G (d + 16) [.ref 200, .int (nI n), .int (nI m)] z u Q := by
    intro u Q g8 g24 a0 a1 a2
    refine vc_X6_season B (om_in B (fun _ _ => br1 (om_in B (fun _ _ => nb1 ?_) (fun a => absurd ⟨by rw [i32_1]; omega, by rw [imax]; omega⟩ a))) (fun a => absurd ⟨by rw [i32_1]; omega, by rw [i32_40]; omega⟩ a))
    rw [g8, g24, nI_add, nI64 (by omega)]
    refine ⟨fun w => ?_, fun w => a0 (nIinj (b := 0) (by omega) (by omega) w)⟩
    have hn0 : dn (rD R) ≠ 0 := fun w2 => w (by rw [w2]; rfl)
    refine ⟨fun w2 => a2 hn0 ?_, fun w2 => a1 hn0 ?_⟩
    · rw [i32le, i32_60, nIi (by omega)] at w2; omega
    · rw [i32le, i32_60, nIi (by omega)] at w2; omega
  refine ok_programs B I.LC I.D ?_
  rw [I.LC.1, I.e, nI_add, nI64 (by omega)]
  refine ⟨fun w => model v _ I.LM.1 I.E (fun _ => Pr.mk rfl h) (fun w2 => absurd (nIinj (b := 0) (by omega) (by omega) w) w2) (fun w2 => absurd (nIinj (b := 0) (by omega) (by omega) w) w2), fun w => bt (by rw [i32le, i32_1, nIi (by omega)]; omega) ⟨fun w2 => ?_, fun w2 => ?_⟩⟩
  · have hn0 : dn (rD R) ≠ 0 := fun w2 => w (by rw [w2]; rfl)
    rw [i32le, i32_60, nIi (by omega)] at w2
    have hen : re R + n ≤ 60 := by omega
    have ok := sSe_ok (m := m) hO (by omega) (by omega)
    have hend := ok n (by omega)
    -- the reference's evenings
    have mloop : ∀ (u : xS), (∀ a, 200 ≤ a → u.1 a = v.1 a) → (∀ a, (a < 30 ∨ 39 ≤ a) → u.1 a = v.1 a) → CR u 30 (sSe R m n).2.1 → ∀ (c k : Nat) (w : xS), k + c = n → (∀ a, a ∉ [200, 210, 214, 225, 226] → w.1 a = u.1 a) → (∀ f, f ≠ 15 → f ≠ 24 → w.1 200 f = u.1 200 f) → MR w (sSe R m k).2.1 → aX6_season G (d + 16) 56 [some (.ref 200), some (.int (nI n)), some (.int (nI m)), some (.long (nL (sSe R m k).1)), none, some (.int (nI (sSe R m k).2.2)), some (.int (nI k))] [] z w (fun r' v2 => Pr z (nI (sSe R m n).2.2) r' v2) := by
      intro u ku ku2 hCu c
      induction c with
      | zero =>
        intro k w hk hw hf hM
        have : k = n := by omega
        subst this
        refine vc_X6_season_56 B (bt (by rw [i32le]; omega) (Pr.mk rfl (h.land (R' := (sSe R m k).2.1) (fun a ha => ?_) ?_ ?_ hend.1 hend.2.1 (hCu.same30 (fun a q1 q2 => hw a (by simp; omega))) hM)))
        · simp [landL] at ha
          rw [hw a (by simp; omega), ku2 a (by omega)]
        · rw [hf 0 (by decide) (by decide), ku 200 (by decide)]
        · rw [hf 2 (by decide) (by decide), ku 200 (by decide)]
      | succ c ih =>
        intro k w hk hw hf hM
        obtain ⟨o1, o2, o3, o4⟩ := ok k (by omega)
        have hnx : nxt (sSe R m k).1 < 2147483647 := Nat.mod_lt _ (by decide)
        have ed : dn (rD (sSe R m k).2.1) = dn (rD R) := o2.1.symm
        have eb : db (rD (sSe R m k).2.1) = db (rD R) := o2.2.1.symm
        have step : ∀ w1 : xS, w1 = wV w 200 15 (nI (frF (nxt (sSe R m k).1) (dn (rD R)))) → oX6_programs G (d + 15) [.ref 200] z w1 (fun r3 v2 => (¬ r3.toInt64 = 0 ∧ (oX6_goEvening G (d + 15) [.ref 200, .int ((nL (nxt (sSe R m k).1) - nL (nxt (sSe R m k).1) / r3.toInt64 * r3.toInt64).toInt32)] z v2 (fun r5 v4 => aX6_season G (d + 16) 56 [some (.ref 200), some (.int (nI n)), some (.int (nI m)), some (.long (nL (nxt (sSe R m k).1))), none, some (.int (nI (sSe R m k).2.2 + r5)), some (.int (nI (k + 1)))] [] z v4 (fun r' v2 => Pr z (nI (sSe R m n).2.2) r' v2))))) := by
          intro w1 e1
          have M1 := hM.frost e1
          have O1 : OKR (frR (frF (nxt (sSe R m k).1) (dn (rD R))) (sSe R m k).2.1) := o1.fr (by rw [ed]; exact frF_lt (by omega))
          have eb1 : db (rD (frR (frF (nxt (sSe R m k).1) (dn (rD R))) (sSe R m k).2.1)) = db (rD R) := eb
          have hmod := Nat.mod_lt (nxt (sSe R m k).1) (show 0 < 3 ^ db (rD R) by omega)
          refine om_programs B M1.lm O1.1 ?_
          rw [eb1, progL (by omega) (by omega) hp27]
          refine ⟨i64p0 (by omega) hp27, om_eve B O1 M1 (by show re (sSe R m k).2.1 < 60; omega) (by omega) (fun w2 hPM hM2 => ?_)⟩
          rw [nI_add]
          refine ih (k + 1) w2 (by omega) (fun a ha => ?_) (fun f q1 q2 => ?_) hM2
          · have ha2 := ha
            simp at ha
            rw [hPM.1.2 a ha2, e1, wV_ne (by omega)]
            exact hw a ha2
          · rw [hPM.2.1 f q2, e1, wV_other _ _ _ _ _ q1]
            exact hf f q1 q2
        refine vc_X6_season_56 B (bf (by rw [i32le, nIi (by omega), nIi (by omega)]; omega) ?_)
        rw [nxtL (by omega), bitL (by omega), hM.1.1, ed, spotL (by omega) (by omega) hn, nI_1]
        refine ⟨fun q => fun w1 e1 => step w1 ?_, fun q => ⟨i64p0 (by omega) (by omega), fun w1 e1 => step w1 ?_⟩⟩
        · rw [lg_cmp_eq, show (1 : Int64) = nL 1 from rfl] at q
          have : ¬ nxt (sSe R m k).1 / 128 % 2 = 1 := fun w => q (by rw [w])
          rw [e1]
          unfold frF
          rw [if_neg this]
          rfl
        · rw [lg_cmp_eq, show (1 : Int64) = nL 1 from rfl] at q
          have := nLinj (by omega) (by omega) q
          rw [e1]
          unfold frF
          rw [if_pos this]
    have cloop : ∀ (c k : Nat) (w : xS), k + c = n → (∀ a, (a < 30 ∨ 39 ≤ a) → w.1 a = v.1 a) → CR w 30 (sSe R m k).2.1 → aX5_season G (d + 16) 78 [some (.ref 0), some (.int (nI n)), some (.int (nI m)), some (.int (nI (3 ^ db (rD R)))), some (.long (nL (sSe R m k).1)), none, some (.int (nI (sSe R m k).2.2)), some (.int (nI k))] [] z w (fun r0 v1 => oX6_season G (d + 16) [.ref 200, .int (nI n), .int (nI m)] z v1 (fun r' v2 => Pr z r0 r' v2)) := by
      intro c
      induction c with
      | zero =>
        intro k w hk hw hC
        have : k = n := by omega
        subst this
        have k200 : ∀ a, 200 ≤ a → w.1 a = v.1 a := fun a ha => hw a (by omega)
        refine vc_X5_season_78 B (bt (by rw [i32le]; omega) (model w _ (by rw [k200 200 (by decide)]; exact I.LM.1) (by rw [k200 200 (by decide)]; exact I.E) (fun w0 => absurd w0 hn0) (fun _ w0 => by omega) (fun _ _ => ?_)))
        exact mloop w k200 hw hC k 0 w (by omega) (fun a _ => rfl) (fun f _ _ => rfl) (I.2.2.2.1.row I.D k200)
      | succ c ih =>
        intro k w hk hw hC
        obtain ⟨o1, o2, o3, o4⟩ := ok k (by omega)
        have hnx : nxt (sSe R m k).1 < 2147483647 := Nat.mod_lt _ (by decide)
        have ed : dn (rD (sSe R m k).2.1) = dn (rD R) := o2.1.symm
        have hmod := Nat.mod_lt (nxt (sSe R m k).1) (show 0 < 3 ^ db (rD R) by omega)
        refine vc_X5_season_78 B (bf (by rw [i32le, nIi (by omega), nIi (by omega)]; omega) ?_)
        rw [nxtL (by omega), nI_1, progL (by omega) (by omega) hp27]
        refine ok_frostByLot B hC.lc o1.1 (by omega) (by omega) (fun w3 e3 => ⟨i64p0 (by omega) hp27, ?_⟩)
        rw [ed] at e3
        have C3 := hC.frost e3
        have O3 : OKR (frR (frF (nxt (sSe R m k).1) (dn (rD R))) (sSe R m k).2.1) := o1.fr (by rw [ed]; exact frF_lt (by omega))
        refine ok_eve B O3 C3 (by show re (sSe R m k).2.1 < 60; omega) (by omega) (fun w4 hPC hC4 => ?_)
        rw [nI_add]
        refine ih (k + 1) w4 (by omega) (fun a ha => ?_) hC4
        rw [hPC.1.2 a (by simp; omega), e3, wV_ne (by omega)]
        exact hw a ha
    exact cloop n 0 v (by omega) (fun a _ => rfl) I.2.2.1
  · rw [i32le, i32_60, nIi (by omega)] at w2
    exact model v _ I.LM.1 I.E (fun w3 => absurd (by rw [w3]; rfl) w) (fun _ _ => Pr.mk rfl h) (fun _ w3 => by omega)
end PSEA
