/-! pairs: digest -/
def mx (h : Int64) (x : Int32) : Int64 := 31 * h + x.toInt64
theorem wL_wL (v : xS) (a k : Nat) (x y : Int64) : wL (wL v a k x) a k y = wL v a k y := by
  refine Prod.ext rfl (funext fun b => ?_)
  show (if b = a then va_up ((wL v a k x).2 a) k y else (wL v a k x).2 b) = (if b = a then va_up (v.2 a) k y else v.2 b)
  by_cases h : b = a
  · rw [if_pos h, if_pos h, wL_row, if_pos rfl]
    funext j
    unfold va_up
    by_cases hj : j = k
    · simp [hj]
    · simp [hj]
  · rw [if_neg h, if_neg h, wL_row, if_neg h]
theorem wL_at (v : xS) (a k : Nat) (x : Int64) : (wL v a k x).2 a k = x := by
  rw [wL_row, if_pos rfl]
  simp [va_up]
section PDIG
variable {G : xG} {d : Nat} {z : xZ} {v : xS} {R : xR}
theorem om_mix {Q : xS → Prop} (B : Base z) {h : Int64} {x : Int32} (hq : Q (wL v 200 41 (mx h x))) : oX6_mix G (d + 1) [.ref 200, .int x] z (wL v 200 41 h) Q := by
  refine vc_X6_mix B (fun v1 e => ?_)
  rw [wL_wL, wL_at] at e
  subst e
  exact hq
def fb (R : xR) (x : Nat) : Int32 := if (dF (rD R)).testBit x = true then 1 else 0
def bt5 (R : xR) (i w : Nat) : Int32 := if w = 0 then nI (dK (rD R) i) else if w = 1 then nI (dP (rD R) i) else if w = 2 then nI (dU (rD R) i) else if w = 3 then sHs (rD R) i (dn (rD R)) else rm R i
def dCn (v : xS) (R : xR) : Nat → Int64
  | 0 => 17
  | w + 1 => mx (dCn v R w) (tV v R w)
def dSp (R : xR) (h : Int64) : Nat → Int64
  | 0 => h
  | x + 1 => mx (mx (dSp R h x) (nI (rg R x))) (fb R x)
def dWh (R : xR) (i : Nat) (h : Int64) : Nat → Int64
  | 0 => h
  | w + 1 => mx (dWh R i h w) (bt5 R i w)
def dBn (R : xR) (h : Int64) : Nat → Int64
  | 0 => h
  | i + 1 => dWh R i (dBn R h i) 5
def dEv (R : xR) (h : Int64) : Nat → Int64
  | 0 => h
  | k + 1 => mx (dEv R h k) (rp R k)
def kpv (v : xS) (j : Nat) : Int32 := if v.1 227 (920 * j) = -9 then -1 else v.1 227 (920 * j)
def dKp (v : xS) (h : Int64) : Nat → Int64
  | 0 => h
  | j + 1 => mx (dKp v h j) (kpv v j)
def szv (v : xS) (a1 r : Nat) : Int32 := if 0 ≤ (v.1 a1 r).toInt then v.1 a1 r else -1
def dRo (v : xS) (a2 b : Nat) (h : Int64) : Nat → Int64
  | 0 => h
  | k + 1 => mx (dRo v a2 b h k) (v.1 a2 (b + k))
def dSh (v : xS) (a1 a2 m : Nat) (h : Int64) : Nat → Int64
  | 0 => h
  | r + 1 => dRo v a2 (m * r) (mx (dSh v a1 a2 m h r) (szv v a1 r)) (v.1 a1 r).toInt.toNat
theorem ok_landMixed {Q : Int64 → xS → Prop} (B : Base z) (I : I0R z v R) {h : Int64} (hq : Q (dEv R (dBn R (dSp R h (dn (rD R))) (db (rD R))) (re R)) v) : oX1_mixedInto G (d + 6) [.ref 30, .long h] z v Q := by
  have hn := I.D.1
  have hb := I.D.2.1
  have he := I.2.1.2.2.1
  have L := I.LC
  have l109 : ∀ (c k : Nat), k + c = re R → aX1_mixedInto G (d + 6) 109 [some (.ref 30), some (.long h), none, some (.long (dEv R (dBn R (dSp R h (dn (rD R))) (db (rD R))) k)), none, some (.int (nI k)), none] [] z v Q := by
    intro c
    induction c with
    | zero =>
      intro k hk
      have : k = re R := by omega
      subst this
      exact vc_X1_mixedInto_109 B (bt (by rw [I.e, i32le]; omega) hq)
    | succ c ih =>
      intro k hk
      refine vc_X1_mixedInto_109 B (bf (by rw [I.e, i32le, nIi (by omega), nIi (by omega)]; omega) ⟨vpN (by omega) (by omega), ?_⟩)
      rw [clN (by omega), nI_1, show v.1 36 k = rp R k from (I.2.2.1.2.2.2 k (by omega)).1]
      exact ih (k + 1) (by omega)
  have l60 : ∀ (c i : Nat), i + c = db (rD R) → aX1_mixedInto G (d + 6) 60 [some (.ref 30), some (.long h), none, some (.long (dBn R (dSp R h (dn (rD R))) i)), none, some (.int (nI i)), none] [] z v Q := by
    intro c
    induction c with
    | zero =>
      intro i hi
      have : i = db (rD R) := by omega
      subst this
      exact vc_X1_mixedInto_60 B (bt (by rw [L.2.1, i32le]; omega) (l109 (re R) 0 (by omega)))
    | succ c ih =>
      intro i hi
      have l72 : ∀ (c w : Nat), w + c = 5 → aX1_mixedInto G (d + 6) 72 [some (.ref 30), some (.long h), none, some (.long (dWh R i (dBn R (dSp R h (dn (rD R))) i) w)), none, some (.int (nI i)), some (.int (nI w))] [] z v Q := by
        intro c
        induction c with
        | zero =>
          intro w hw
          have : w = 5 := by omega
          subst this
          refine vc_X1_mixedInto_72 B (bt (by decide) ?_)
          rw [nI_1]
          exact ih (i + 1) (by omega)
        | succ c ih2 =>
          intro w hw
          refine vc_X1_mixedInto_72 B (bf (by rw [i32le, i32_5, nIi (by omega)]; omega) (ok_bandTells B L I.D (by omega) (by omega) ?_))
          have go := ih2 (w + 1) (by omega)
          rw [dWh] at go
          unfold bt5 at go
          rw [nI_1, show v.1 35 i = rm R i from (I.2.2.1.2.1 i (by omega)).2.2.2]
          exact go
      exact vc_X1_mixedInto_60 B (bf (by rw [L.2.1, i32le, nIi (by omega), nIi (by omega)]; omega) (l72 5 0 rfl))
  have l5 : ∀ (c x : Nat), x + c = dn (rD R) → aX1_mixedInto G (d + 6) 5 [some (.ref 30), some (.long h), none, some (.long (dSp R h x)), none, some (.int (nI x)), none] [] z v Q := by
    intro c
    induction c with
    | zero =>
      intro x hx
      have : x = dn (rD R) := by omega
      subst this
      exact vc_X1_mixedInto_5 B (bt (by rw [L.1, i32le]; omega) (l60 (db (rD R)) 0 (by omega)))
    | succ c ih =>
      intro x hx
      have go := ih (x + 1) (by omega)
      rw [dSp] at go
      unfold fb at go
      refine vc_X1_mixedInto_5 B (bf (by rw [L.1, i32le, nIi (by omega), nIi (by omega)]; omega) ⟨vpN (by omega) (by omega), ok_isFrozen B L I.D (by omega) (fun q => br1 ?_) (fun q => br0 ?_)⟩)
      · rw [clN (by omega), I.g x (by omega), nI_1]
        rw [if_pos q] at go
        exact go
      · rw [clN (by omega), I.g x (by omega), nI_1]
        rw [if_neg (by rw [q]; decide)] at go
        exact go
  exact vc_X1_mixedInto B (l5 (dn (rD R)) 0 (by omega))
theorem ok_shelfMixed {Q : Int64 → xS → Prop} {s p m a1 a2 : Nat} (B : Base z) (hs : xShelf z s p m) (hp : p ≤ 6) (hm : m ≤ 80) (S : SHL v s p m a1 a2) {h : Int64} (hq : Q (dSh v a1 a2 m h p) v) : oX4_mixedInto G (d + 1) [.ref s, .long h] z v Q := by
  have ep : (Int32.ofNat p).toInt = p := nIi (by omega)
  have outer : ∀ (c r : Nat), r + c = p → aX4_mixedInto G (d + 1) 5 [some (.ref s), some (.long h), none, some (.long (dSh v a1 a2 m h r)), none, some (.int (nI r)), none] [] z v Q := by
    intro c
    induction c with
    | zero =>
      intro r hr
      have : r = p := by omega
      subst this
      exact vc_X4_mixedInto_5 B hs (bt (by rw [i32le, ep, nIi (by omega)]; omega) hq)
    | succ c ih =>
      intro r hr
      have hr' : r < p := by omega
      have vr := vpN hr' (by omega : p < 2147483648)
      have go := ih (r + 1) (by omega)
      rw [dSh] at go
      refine vc_X4_mixedInto_5 B hs (bf (by rw [i32le, ep, nIi (by omega)]; omega) ⟨vr, ?_⟩)
      rw [clN (by omega)]
      rcases S.2 r hr' with ⟨c1, c2⟩ | ⟨n, hn, c1, c2, c3⟩
      · rw [c1]
        unfold szv at go
        rw [c2, i32_m9, if_neg (by omega), show (-9 : Int).toNat = 0 from rfl] at go
        refine vc_X4_mixedInto_33 B hs ⟨vr, ?_⟩
        rw [clN (by omega), c1, nI_1]
        exact bt (by decide) go
      · rw [c1]
        unfold szv at go
        rw [c2, nIi (by omega), if_pos (by omega), Int.toNat_natCast] at go
        have inner : ∀ (c k : Nat), k + c = n → aX4_mixedInto G (d + 1) 33 [some (.ref s), some (.long h), none, some (.long (dRo v a2 (m * r) (mx (dSh v a1 a2 m h r) (nI n)) k)), none, some (.int (nI r)), some (.int (nI k))] [] z v Q := by
          intro c
          induction c with
          | zero =>
            intro k hk
            have : k = n := by omega
            subst this
            refine vc_X4_mixedInto_33 B hs ⟨vr, ?_⟩
            rw [clN (by omega), c1, nI_1]
            exact bt (by rw [i32le]; omega) go
          | succ c ih2 =>
            intro k hk
            refine vc_X4_mixedInto_33 B hs ⟨vr, ?_⟩
            rw [clN (by omega), c1]
            refine bf (by rw [i32le, nIi (by omega), nIi (by omega)]; omega) ⟨vr, vpN (by omega) (by omega), ?_⟩
            rw [clN (by omega), c3 k (by omega), nI_1]
            exact ih2 (k + 1) (by omega)
        exact inner n 0 (by omega)
  exact vc_X4_mixedInto B hs (outer p 0 (by omega))
theorem ok_keptEvenings {Q : Int32 → xS → Prop} (B : Base z) (I : I0R z v R) {j : Nat} (hj : j < 3) (hq : Q (kpv v j) v) : oX5_keptEvenings G (d + 1) [.ref 0, .int (nI j)] z v Q := by
  have vj := vpN hj (by decide : 3 < 2147483648)
  unfold kpv at hq
  refine vc_X5_keptEvenings B (bf (by rw [i32lt, i32_0, nIi (by omega)]; omega) (bf (by rw [i32le, i32_3, nIi (by omega)]; omega) ⟨vj, ?_⟩))
  rw [clN (by omega)]
  rcases I.2.2.2.2.1 j hj with ⟨k1, k2⟩ | ⟨k1, k2, R', hO', hL', hC', hK'⟩
  · rw [k2, if_pos rfl] at hq
    rw [k1]
    exact nf rfl hq
  · have h60 := hO'.2.2.1
    rw [hK'.1.1, if_neg (nI_ne9 (by omega))] at hq
    rw [k1]
    refine nt (by decide) ⟨vj, fun w => by rw [k2] at w; exact absurd w (by simp), fun b hb => ?_⟩
    have eb : b = 40 + 10 * j := by rw [k2] at hb; injection hb with hb; exact hb.symm
    subst eb
    rcases I.1 j hj with w | w
    · rw [k2] at w; exact absurd w (by simp)
    · refine ⟨w.2.1, ?_⟩
      rw [hC'.1.2.2.2]
      exact hq
theorem om_mixLand {Q : xS → Prop} (B : Base z) (I : I0R z v R) {h : Int64} (hq : Q (wL v 200 41 (dKp v (dEv R (dBn R (dSp R h (dn (rD R))) (db (rD R))) (re R)) 3))) : oX6_mixLand G (d + 6) [.ref 200] z (wL v 200 41 h) Q := by
  have hn := I.D.1
  have hb := I.D.2.1
  have he := I.2.1.2.2.1
  have L : ∀ h, LM (wL v 200 41 h) (rD R) := fun h => I.LM
  have l105 : ∀ (c j : Nat), j + c = 3 → aX6_mixLand G (d + 6) 105 [some (.ref 200), some (.int (nI j)), none] [] z (wL v 200 41 (dKp v (dEv R (dBn R (dSp R h (dn (rD R))) (db (rD R))) (re R)) j)) Q := by
    intro c
    induction c with
    | zero =>
      intro j hj
      have : j = 3 := by omega
      subst this
      exact vc_X6_mixLand_105 B (bt (by decide) hq)
    | succ c ih =>
      intro j hj
      have go := ih (j + 1) (by omega)
      rw [dKp] at go
      unfold kpv at go
      have vj := vpN (j := 920 * j) (n := 2760) (by omega) (by omega)
      refine vc_X6_mixLand_105 B (bf (by rw [i32le, i32_3, nIi (by omega)]; omega) ?_)
      rw [e920, clN (by omega), nI_1]
      refine ⟨vj, fun q => ⟨vj, ?_⟩, fun q => ?_⟩
      · have q' : ¬ v.1 227 (920 * j) = -9 := q
        rw [if_neg q'] at go
        exact om_mix B go
      · have q' : v.1 227 (920 * j) = -9 := q
        rw [if_pos q'] at go
        exact om_mix B go
  have l79 : ∀ (c k : Nat), k + c = re R → aX6_mixLand G (d + 6) 79 [some (.ref 200), some (.int (nI k)), none] [] z (wL v 200 41 (dEv R (dBn R (dSp R h (dn (rD R))) (db (rD R))) k)) Q := by
    intro c
    induction c with
    | zero =>
      intro k hk
      have : k = re R := by omega
      subst this
      exact vc_X6_mixLand_79 B (bt (by rw [show (wL v 200 41 (dEv R (dBn R (dSp R h (dn (rD R))) (db (rD R))) (re R))).1 200 24 = nI (re R) from I.E, i32le]; omega) (l105 3 0 rfl))
    | succ c ih =>
      intro k hk
      have go := ih (k + 1) (by omega)
      rw [dEv] at go
      refine vc_X6_mixLand_79 B (bf (by rw [show (wL v 200 41 (dEv R (dBn R (dSp R h (dn (rD R))) (db (rD R))) k)).1 200 24 = nI (re R) from I.E, i32le, nIi (by omega), nIi (by omega)]; omega) ⟨vpN (by omega) (by omega), om_mix B ?_⟩)
      rw [clN (by omega), nI_1, show (wL v 200 41 (dEv R (dBn R (dSp R h (dn (rD R))) (db (rD R))) k)).1 225 k = rp R k from (I.2.2.2.1.2.2.2 k (by omega)).1]
      exact go
  have l40 : ∀ (c i : Nat), i + c = db (rD R) → aX6_mixLand G (d + 6) 40 [some (.ref 200), some (.int (nI i)), none] [] z (wL v 200 41 (dBn R (dSp R h (dn (rD R))) i)) Q := by
    intro c
    induction c with
    | zero =>
      intro i hi
      have : i = db (rD R) := by omega
      subst this
      exact vc_X6_mixLand_40 B (bt (by rw [(L _).2.1, i32le]; omega) (l79 (re R) 0 (by omega)))
    | succ c ih =>
      intro i hi
      have l50 : ∀ (c w : Nat), w + c = 5 → aX6_mixLand G (d + 6) 50 [some (.ref 200), some (.int (nI i)), some (.int (nI w))] [] z (wL v 200 41 (dWh R i (dBn R (dSp R h (dn (rD R))) i) w)) Q := by
        intro c
        induction c with
        | zero =>
          intro w hw
          have : w = 5 := by omega
          subst this
          refine vc_X6_mixLand_50 B (bt (by decide) ?_)
          rw [nI_1]
          exact ih (i + 1) (by omega)
        | succ c ih2 =>
          intro w hw
          have go := ih2 (w + 1) (by omega)
          rw [dWh] at go
          unfold bt5 at go
          refine vc_X6_mixLand_50 B (bf (by rw [i32lt, show (4 : Int32).toInt = 4 by decide, nIi (by omega)]; omega) (om_bandOf B (L _) I.D (by omega) (by omega) (om_mix B ?_)))
          rw [nI_1, show (wL v 200 41 (dWh R i (dBn R (dSp R h (dn (rD R))) i) w)).1 214 i = rm R i from (I.2.2.2.1.2.1 i (by omega)).2.2.2]
          exact go
      exact vc_X6_mixLand_40 B (bf (by rw [(L _).2.1, i32le, nIi (by omega), nIi (by omega)]; omega) (l50 5 0 rfl))
  have l2 : ∀ (c x : Nat), x + c = dn (rD R) → aX6_mixLand G (d + 6) 2 [some (.ref 200), some (.int (nI x)), none] [] z (wL v 200 41 (dSp R h x)) Q := by
    intro c
    induction c with
    | zero =>
      intro x hx
      have : x = dn (rD R) := by omega
      subst this
      exact vc_X6_mixLand_2 B (bt (by rw [(L _).1, i32le]; omega) (l40 (db (rD R)) 0 (by omega)))
    | succ c ih =>
      intro x hx
      have go := ih (x + 1) (by omega)
      rw [dSp] at go
      unfold fb at go
      refine vc_X6_mixLand_2 B (bf (by rw [(L _).1, i32le, nIi (by omega), nIi (by omega)]; omega) ⟨vpN (by omega) (by omega), ?_⟩)
      rw [clN (by omega), show (wL v 200 41 (dSp R h x)).1 210 x = nI (rg R x) from I.G x (by omega), nI_1]
      refine om_mix B ?_
      rw [(L _).2.2.1, bit01 _ I.D.F x (by omega)]
      exact om_mix B go
  exact vc_X6_mixLand B (l2 (dn (rD R)) 0 (by omega))
theorem pr_digest (B : Base z) (h : InvR z v R) : oX5_digest G (d + 16) [.ref 0] z v (fun r v1 => oX6_digest G (d + 16) [.ref 200] z v1 (fun r' v2 => PrL z r r' v2)) := by
  have I := h.1
  obtain ⟨hA, eA⟩ : ∃ hA, hA = dEv R (dBn R (dSp R (dCn v R 9) (dn (rD R))) (db (rD R))) (re R) := ⟨_, rfl⟩
  obtain ⟨res, eres⟩ : ∃ res, res = dSh v 206 207 80 (dSh v 203 204 40 (dKp v hA 3) 6) 4 := ⟨_, rfl⟩
  have Iw : ∀ h0, I0R z (wL v 200 41 h0) R := fun _ => I
  -- the reference
  have model : oX6_digest G (d + 16) [.ref 200] z v (fun r' v2 => PrL z res r' v2) := by
    have l101 : ∀ (c t : Nat), t + c = 4 → aX6_digest G (d + 16) 101 [some (.ref 200), some (.int (nI t)), none] [] z (wL v 200 41 (dSh v 206 207 80 (dSh v 203 204 40 (dKp v hA 3) 6) t)) (fun r' v2 => PrL z res r' v2) := by
      intro c
      induction c with
      | zero =>
        intro t ht
        have : t = 4 := by omega
        subst this
        refine vc_X6_digest_101 B (bt (by decide) ⟨?_, R, h⟩)
        rw [wL_at]
        exact eres.symm
      | succ c ih =>
        intro t ht
        have ht4 : t < 4 := by omega
        have vt := vpN ht4 (by decide : 4 < 2147483648)
        have go := ih (t + 1) (by omega)
        rw [dSh] at go
        have fin : ∀ n h0, n ≤ 80 → v.1 206 t = nI n → aX6_digest G (d + 16) 101 [some (.ref 200), some (.int (nI (t + 1))), none] [] z (wL v 200 41 (dRo v 207 (80 * t) h0 n)) (fun r' v2 => PrL z res r' v2) → ∀ (c k : Nat), k + c = n → aX6_digest G (d + 16) 131 [some (.ref 200), some (.int (nI t)), some (.int (nI k))] [] z (wL v 200 41 (dRo v 207 (80 * t) h0 k)) (fun r' v2 => PrL z res r' v2) := by
          intro n h0 hn hsz hgo c
          induction c with
          | zero =>
            intro k hk
            have : k = n := by omega
            subst this
            refine vc_X6_digest_131 B ⟨vt, ?_⟩
            rw [clN (by omega), show (wL v 200 41 (dRo v 207 (80 * t) h0 k)).1 206 t = nI k from hsz, nI_1]
            exact bt (by rw [i32le]; omega) hgo
          | succ c ih2 =>
            intro k hk
            refine vc_X6_digest_131 B ⟨vt, ?_⟩
            rw [clN (by omega), show (wL v 200 41 (dRo v 207 (80 * t) h0 k)).1 206 t = nI n from hsz, e80, nI_1 k, clN (by omega)]
            exact bf (by rw [i32le, nIi (by omega), nIi (by omega)]; omega) ⟨vpN (by omega) (by omega), om_mix B (ih2 (k + 1) (by omega))⟩
        refine vc_X6_digest_101 B (bf (by rw [i32le, show (4 : Int32).toInt = 4 by decide, nIi (by omega)]; omega) ⟨vt, ?_⟩)
        rw [clN (by omega)]
        rcases I.texts.2 t ht4 with ⟨c1, c2⟩ | ⟨n, hn, c1, c2, c3⟩
        · unfold szv at go
          rw [c2, i32_m9, if_neg (by omega), show (-9 : Int).toNat = 0 from rfl] at go
          have e1 : ∀ h0, (wL v 200 41 h0).1 206 t = -9 := fun _ => c2
          rw [e1]
          refine bf (by decide) (om_mix B (vc_X6_digest_131 B ⟨vt, ?_⟩))
          rw [clN (by omega), e1, nI_1]
          exact bt (by decide) go
        · unfold szv at go
          rw [c2, nIi (by omega), if_pos (by omega), Int.toNat_natCast] at go
          have e1 : ∀ h0, (wL v 200 41 h0).1 206 t = nI n := fun _ => c2
          rw [e1]
          exact bt (by rw [i32le, i32_0, nIi (by omega)]; omega) ⟨vt, om_mix B (fin n _ hn c2 go n 0 (by omega))⟩
    have l36 : ∀ (c r : Nat), r + c = 6 → aX6_digest G (d + 16) 36 [some (.ref 200), some (.int (nI r)), none] [] z (wL v 200 41 (dSh v 203 204 40 (dKp v hA 3) r)) (fun r' v2 => PrL z res r' v2) := by
      intro c
      induction c with
      | zero =>
        intro r hr
        have : r = 6 := by omega
        subst this
        exact vc_X6_digest_36 B (bt (by decide) (l101 4 0 rfl))
      | succ c ih =>
        intro r hr
        have hr6 : r < 6 := by omega
        have vr := vpN hr6 (by decide : 6 < 2147483648)
        have go := ih (r + 1) (by omega)
        rw [dSh] at go
        have fin : ∀ n h0, n ≤ 40 → v.1 203 r = nI n → aX6_digest G (d + 16) 36 [some (.ref 200), some (.int (nI (r + 1))), none] [] z (wL v 200 41 (dRo v 204 (40 * r) h0 n)) (fun r' v2 => PrL z res r' v2) → ∀ (c k : Nat), k + c = n → aX6_digest G (d + 16) 67 [some (.ref 200), some (.int (nI r)), some (.int (nI k))] [] z (wL v 200 41 (dRo v 204 (40 * r) h0 k)) (fun r' v2 => PrL z res r' v2) := by
          intro n h0 hn hsz hgo c
          induction c with
          | zero =>
            intro k hk
            have : k = n := by omega
            subst this
            refine vc_X6_digest_67 B ⟨vr, ?_⟩
            rw [clN (by omega), show (wL v 200 41 (dRo v 204 (40 * r) h0 k)).1 203 r = nI k from hsz, nI_1]
            exact bt (by rw [i32le]; omega) hgo
          | succ c ih2 =>
            intro k hk
            refine vc_X6_digest_67 B ⟨vr, ?_⟩
            rw [clN (by omega), show (wL v 200 41 (dRo v 204 (40 * r) h0 k)).1 203 r = nI n from hsz, nI_1 k]
            exact bf (by rw [i32le, nIi (by omega), nIi (by omega)]; omega) (om_rowAt B hr6 (by omega) (om_mix B (ih2 (k + 1) (by omega))))
        refine vc_X6_digest_36 B (bf (by rw [i32le, i32_6, nIi (by omega)]; omega) ⟨vr, ?_⟩)
        rw [clN (by omega)]
        rcases I.rows.2 r hr6 with ⟨c1, c2⟩ | ⟨n, hn, c1, c2, c3⟩
        · unfold szv at go
          rw [c2, i32_m9, if_neg (by omega), show (-9 : Int).toNat = 0 from rfl] at go
          have e1 : ∀ h0, (wL v 200 41 h0).1 203 r = -9 := fun _ => c2
          rw [e1]
          refine bf (by decide) (om_mix B (vc_X6_digest_67 B ⟨vr, ?_⟩))
          rw [clN (by omega), e1, nI_1]
          exact bt (by decide) go
        · unfold szv at go
          rw [c2, nIi (by omega), if_pos (by omega), Int.toNat_natCast] at go
          have e1 : ∀ h0, (wL v 200 41 h0).1 203 r = nI n := fun _ => c2
          rw [e1]
          exact bt (by rw [i32le, i32_0, nIi (by omega)]; omega) ⟨vr, om_mix B (fin n _ hn c2 go n 0 (by omega))⟩
    have l9 : ∀ (c w : Nat), w + c = 9 → aX6_digest G (d + 16) 9 [some (.ref 200), some (.int (nI w)), none] [] z (wL v 200 41 (dCn v R w)) (fun r' v2 => PrL z res r' v2) := by
      intro c
      induction c with
      | zero =>
        intro w hw
        have : w = 9 := by omega
        subst this
        refine vc_X6_digest_9 B (bt (by decide) (om_mixLand B I ?_))
        rw [← eA]
        exact l36 6 0 rfl
      | succ c ih =>
        intro w hw
        refine vc_X6_digest_9 B (bf (by rw [i32lt, show (8 : Int32).toInt = 8 by decide, nIi (by omega)]; omega) (om_tells B (Iw _) (by omega) (om_mix B ?_)))
        rw [nI_1]
        exact ih (w + 1) (by omega)
    exact vc_X6_digest B (fun v1 e1 => by rw [e1]; exact l9 9 0 rfl)
  have l42 : ∀ (c j : Nat), j + c = 3 → aX5_digest G (d + 16) 42 [some (.ref 0), some (.long (dKp v hA j)), none, some (.int (nI j))] [] z v (fun r v1 => oX6_digest G (d + 16) [.ref 200] z v1 (fun r' v2 => PrL z r r' v2)) := by
    intro c
    induction c with
    | zero =>
      intro j hj
      have : j = 3 := by omega
      subst this
      refine vc_X5_digest_42 B (bt (by decide) (ok_shelfMixed B (bS_1 B) (by decide) (by decide) I.rows (ok_shelfMixed B (bS_10 B) (by decide) (by decide) I.texts ?_)))
      rw [← eres]
      exact model
    | succ c ih =>
      intro j hj
      refine vc_X5_digest_42 B (bf (by rw [i32le, i32_3, nIi (by omega)]; omega) (ok_keptEvenings B I (by omega) ?_))
      rw [nI_1]
      exact ih (j + 1) (by omega)
  have l6 : ∀ (c w : Nat), w + c = 9 → aX5_digest G (d + 16) 6 [some (.ref 0), some (.long (dCn v R w)), none, some (.int (nI w))] [] z v (fun r v1 => oX6_digest G (d + 16) [.ref 200] z v1 (fun r' v2 => PrL z r r' v2)) := by
    intro c
    induction c with
    | zero =>
      intro w hw
      have : w = 9 := by omega
      subst this
      refine vc_X5_digest_6 B (bt (by decide) (ok_landMixed B I ?_))
      rw [← eA]
      exact l42 3 0 rfl
    | succ c ih =>
      intro w hw
      refine vc_X5_digest_6 B (bf (by rw [i32le, show (9 : Int32).toInt = 9 by decide, nIi (by omega)]; omega) (ok_count B I (by omega) ?_))
      rw [nI_1]
      exact ih (w + 1) (by omega)
  exact vc_X5_digest B (l6 9 0 rfl)
end PDIG
