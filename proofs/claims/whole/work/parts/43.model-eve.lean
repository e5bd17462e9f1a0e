/-! the reference: programs, evenings, notes -/
section MEVE
variable {G : xG} {d : Nat} {z : xZ} {v : xS} {D : xD} {g : Nat → Nat}
theorem om_programs {Q : Int32 → xS → Prop} (B : Base z) (hL : LM v D) (hD : DB D) (hq : Q (nI (3 ^ db D)) v) : oX6_programs G (d + 1) [.ref 200] z v Q := by
  have hb := hD.2.1
  have e : (v.1 200 9).toInt = db D := by rw [hL.2.1]; exact nIi (by omega)
  have loop : ∀ (c i : Nat), i ≤ db D → db D - i = c → aX6_programs G (d + 1) 4 [some (.ref 200), some (.int (nI (3 ^ i))), some (.int (nI i))] [] z v Q := by
    intro c
    induction c with
    | zero =>
      intro i hi hc
      have ei : i = db D := by omega
      subst ei
      exact vc_X6_programs_4 B (bt (by rw [i32le, e, nIi (by omega)]; omega) hq)
    | succ c ih =>
      intro i hi hc
      refine vc_X6_programs_4 B (bf (by rw [i32le, e, nIi (by omega)]; omega) ?_)
      have := ih (i + 1) (by omega) (by omega)
      rw [Nat.pow_succ, ← pk_mul, ← nI_1 i] at this
      exact this
  exact vc_X6_programs B (loop (db D) 0 (Nat.zero_le _) (by omega))
theorem om_tuneOf {Q : Int32 → xS → Prop} (B : Base z) {p i : Nat} (hp : p < 2147483648) (hi : i < 3) (hq : Q (nI (tn p i)) v) : oX6_tuneOf G (d + 1) [.int (nI p), .int (nI i)] z v Q := by
  unfold tn at hq
  refine vc_X6_tuneOf B ⟨fun c0 => ⟨fun c1 => ?_, fun c1 => ?_⟩, fun c0 => ?_⟩
  · have h0 : i ≠ 0 := fun q => c0 (by rw [q]; rfl)
    have h1 : i ≠ 1 := fun q => c1 (by rw [q]; rfl)
    have h2 : i = 2 := by omega
    subst h2
    rw [div9 hp, rem3 (Nat.lt_of_le_of_lt (Nat.div_le_self _ _) hp)]
    exact hq
  · have h1 : i = 1 := nIinj (b := 1) (by omega) (by omega) c1
    subst h1
    rw [div3 hp, rem3 (Nat.lt_of_le_of_lt (Nat.div_le_self _ _) hp)]
    exact hq
  · have h1 : i = 0 := nIinj (b := 0) (by omega) (by omega) c0
    subst h1
    rw [rem3 hp]
    rw [Nat.pow_zero, Nat.div_one] at hq
    exact hq
theorem om_breathOf {Q : Int32 → xS → Prop} (B : Base z) (hL : LM v D) (hD : DB D) {p : Nat} (hp : p < 2147483648) (hq : Q (nI (eB D p)) v) : oX6_breathOf G (d + 2) [.ref 200, .int (nI p)] z v Q := by
  have hb := hD.2.1
  have e : (v.1 200 9).toInt = db D := by rw [hL.2.1]; exact nIi (by omega)
  have loop : ∀ (c i : Nat), i ≤ db D → db D - i = c → aX6_breathOf G (d + 2) 4 [some (.ref 200), some (.int (nI p)), some (.int (nI (sBr D p i))), some (.int (nI i))] [] z v Q := by
    intro c
    induction c with
    | zero =>
      intro i hi hc
      have ei : i = db D := by omega
      subst ei
      exact vc_X6_breathOf_4 B (bt (by rw [i32le, e, nIi (by omega)]; omega) hq)
    | succ c ih =>
      intro i hi hc
      have := ih (i + 1) (by omega) (by omega)
      refine vc_X6_breathOf_4 B (bf (by rw [i32le, e, nIi (by omega)]; omega) (om_tuneOf B hp (by omega) ⟨fun c1 => ⟨vpN (by omega) (by omega), ?_⟩, fun c1 => ?_⟩))
      · have ht : ¬ tn p i = 0 := fun q => c1 (by rw [q]; rfl)
        rw [sBr, if_neg ht, ← nI_1, ← nI_add] at this
        rw [clN (by omega), (hL.2.2.2 i (by omega)).2.2]
        exact this
      · have ht : tn p i = 0 := nIinj (b := 0) (by have := tn_lt p i; omega) (by omega) c1
        rw [sBr, if_pos ht, ← nI_1, ← nI_add] at this
        exact this
  exact vc_X6_breathOf B (loop (db D) 0 (Nat.zero_le _) (by omega))
theorem om_passEvening {Q : Int32 → xS → Prop} (B : Base z) (hL : LM v D) (hD : DB D) (hG : Gd v 210 D g) (hs : sm g (dn D) ≤ 90) {p : Nat} (hp : p < 2147483648)
    (hq : ∀ v1, Same [210, 214] v v1 → Gd v1 210 D (eG D p g) → (∀ i, i < db D → v1.1 214 i = v.1 214 i + nI (sMv D p g i)) → Q (nI (eT D p g)) v1) : oX6_passEvening G (d + 6) [.ref 200, .int (nI p)] z v Q := by
  have hb := hD.2.1
  have loop : ∀ (c m : Nat) (v1 : xS), m ≤ db D → db D - m = c → Same [210, 214] v v1 → Gd v1 210 D (sEvG D p m g) → (∀ i, i < m → v1.1 214 i = v.1 214 i + nI (sMv D p g i)) → (∀ i, m ≤ i → v1.1 214 i = v.1 214 i) → aX6_passEvening G (d + 6) 4 [some (.ref 200), some (.int (nI p)), some (.int (nI (sEvT D p m g))), some (.int (nI m)), none] [] z v1 Q := by
    intro c
    induction c with
    | zero =>
      intro m v1 hm hc hS hG1 h35 h35'
      have em : m = db D := by omega
      subst em
      have hL1 : LM v1 D := hL.same hS
      exact vc_X6_passEvening_4 B (bt (by rw [hL1.2.1, i32le]; omega) (hq v1 hS hG1 h35))
    | succ c ih =>
      intro m v1 hm hc hS hG1 h35 h35'
      have hL1 : LM v1 D := hL.same hS
      have vm := vpN (j := m) (n := 3) (by omega) (by omega)
      refine vc_X6_passEvening_4 B (bf (by rw [hL1.2.1, i32le, nIi (by omega), nIi (by omega)]; omega) (om_tuneOf B hp (by omega) (om_play B hL1 hD hG1 (by rw [sEvG_sm]; exact hs) (by omega) (tn_lt p m) (fun v3 hS3 hG3 => ⟨vm, vm, fun v7 e7 => ?_⟩))))
      rw [clN (by omega)] at e7
      rw [nI_add, nI_1]
      have h3 : v3.1 214 = v1.1 214 := Same1 hS3 (by decide)
      refine ih (m + 1) v7 (by omega) (by omega) ?_ ?_ ?_ ?_
      · rw [e7]; exact (hS.trans (hS3.mono (by simp))).wV (by simp)
      · intro x hx; rw [e7, wV_ne (by decide)]; exact hG3 x hx
      · intro i hi
        by_cases him : i = m
        · rw [him, e7, wV_at, h3, h35' m (Nat.le_refl _)]; rfl
        · rw [e7, wV_other _ _ _ _ _ him, h3]; exact h35 i (by omega)
      · intro i hi
        rw [e7, wV_other _ _ _ _ _ (by omega), h3]; exact h35' i (by omega)
  exact vc_X6_passEvening B (loop (db D) 0 v (Nat.zero_le _) (by omega) (Same.rf _ _) hG (fun i h => absurd h (Nat.not_lt_zero _)) (fun i _ => rfl))
/-- notes: ten heights and three numbers from a place on -/
theorem om_write {Q : xS → Prop} (B : Base z) {a n at0 : Nat} (ha : xin z a 10 n) (hne : a ≠ 210 ∧ a ≠ 214) (hn : n < 100000) (hat : at0 + 13 ≤ n) (hq : ∀ v1, Same [a] v v1 → (∀ x, x < 10 → v1.1 a (at0 + x) = v.1 210 x) → (∀ i, i < 3 → v1.1 a (at0 + 10 + i) = v.1 214 i) → (∀ j, (j < at0 ∨ at0 + 13 ≤ j) → v1.1 a j = v.1 a j) → Q v1) : oX6_write G (d + 1) [.ref 200, .ref a, .int (nI at0)] z v Q := by
  have loop2 : ∀ (c i : Nat) (v1 : xS), i + c = 3 → Same [a] v v1 → (∀ x, x < 10 → v1.1 a (at0 + x) = v.1 210 x) → (∀ k, k < i → v1.1 a (at0 + 10 + k) = v.1 214 k) → (∀ j, (j < at0 ∨ at0 + 13 ≤ j) → v1.1 a j = v.1 a j) → aX6_write G (d + 1) 27 [some (.ref 200), some (.ref a), some (.int (nI at0)), some (.int (nI i))] [] z v1 Q := by
    intro c
    induction c with
    | zero =>
      intro i v1 hi hS h1 h2 h3
      have : i = 3 := by omega
      subst this
      exact vc_X6_write_27 B ha (bt (by decide) (hq v1 hS h1 h2 h3))
    | succ c ih =>
      intro i v1 hi hS h1 h2 h3
      have e : nI at0 + 10 + nI i = nI (at0 + 10 + i) := by rw [show (10 : Int32) = nI 10 from rfl, nI_add, nI_add]
      refine vc_X6_write_27 B ha (bf (by rw [i32le, i32_3, nIi (by omega)]; omega) ?_)
      rw [e, nI_1]
      refine ⟨vpN (by omega) (by omega), vpN (by omega) (by omega), fun v3 e3 => ?_⟩
      rw [clN (by omega), clN (by omega), Same1 hS (by exact fun h => hne.2 h.symm)] at e3
      subst e3
      refine ih (i + 1) _ (by omega) (hS.wV (by simp)) (fun x hx => ?_) (fun k hk => ?_) (fun j hj => ?_)
      · rw [wV_other _ _ _ _ _ (by omega)]; exact h1 x hx
      · by_cases hki : k = i
        · rw [hki, wV_at]
        · rw [wV_other _ _ _ _ _ (by omega)]; exact h2 k (by omega)
      · rw [wV_other _ _ _ _ _ (by omega)]; exact h3 j hj
  have loop1 : ∀ (c x : Nat) (v1 : xS), x + c = 10 → Same [a] v v1 → (∀ y, y < x → v1.1 a (at0 + y) = v.1 210 y) → (∀ j, (j < at0 ∨ at0 + 13 ≤ j) → v1.1 a j = v.1 a j) → aX6_write G (d + 1) 2 [some (.ref 200), some (.ref a), some (.int (nI at0)), some (.int (nI x))] [] z v1 Q := by
    intro c
    induction c with
    | zero =>
      intro x v1 hx hS h1 h3
      have : x = 10 := by omega
      subst this
      exact vc_X6_write_2 B ha (bt (by decide) (loop2 3 0 v1 rfl hS h1 (fun k h => absurd h (Nat.not_lt_zero _)) h3))
    | succ c ih =>
      intro x v1 hx hS h1 h3
      have e : nI at0 + nI x = nI (at0 + x) := nI_add _ _
      refine vc_X6_write_2 B ha (bf (by rw [i32le, i32_10, nIi (by omega)]; omega) ?_)
      rw [e, nI_1]
      refine ⟨vpN (by omega) (by omega), vpN (by omega) (by omega), fun v3 e3 => ?_⟩
      rw [clN (by omega), clN (by omega), Same1 hS (by exact fun h => hne.1 h.symm)] at e3
      subst e3
      refine ih (x + 1) _ (by omega) (hS.wV (by simp)) (fun y hy => ?_) (fun j hj => ?_)
      · by_cases hyx : y = x
        · rw [hyx, wV_at]
        · rw [wV_other _ _ _ _ _ (by omega)]; exact h1 y (by omega)
      · rw [wV_other _ _ _ _ _ (by omega)]; exact h3 j hj
  exact vc_X6_write B ha (loop1 10 0 v rfl (Same.rf _ _) (fun y h => absurd h (Nat.not_lt_zero _)) (fun j _ => rfl))
theorem om_read {Q : xS → Prop} (B : Base z) {a n at0 : Nat} (ha : xin z a 10 n) (hne : a ≠ 210 ∧ a ≠ 214) (hn : n < 100000) (hat : at0 + 13 ≤ n) (hq : ∀ v1, Same [210, 214] v v1 → (∀ x, x < 10 → v1.1 210 x = v.1 a (at0 + x)) → (∀ i, i < 3 → v1.1 214 i = v.1 a (at0 + 10 + i)) → Q v1) : oX6_read G (d + 1) [.ref 200, .ref a, .int (nI at0)] z v Q := by
  have hna : a ∉ [210, 214] := by simp; omega
  have loop2 : ∀ (c i : Nat) (v1 : xS), i + c = 3 → Same [210, 214] v v1 → (∀ x, x < 10 → v1.1 210 x = v.1 a (at0 + x)) → (∀ k, k < i → v1.1 214 k = v.1 a (at0 + 10 + k)) → aX6_read G (d + 1) 27 [some (.ref 200), some (.ref a), some (.int (nI at0)), some (.int (nI i))] [] z v1 Q := by
    intro c
    induction c with
    | zero =>
      intro i v1 hi hS h1 h2
      have : i = 3 := by omega
      subst this
      exact vc_X6_read_27 B ha (bt (by decide) (hq v1 hS h1 h2))
    | succ c ih =>
      intro i v1 hi hS h1 h2
      have e : nI at0 + 10 + nI i = nI (at0 + 10 + i) := by rw [show (10 : Int32) = nI 10 from rfl, nI_add, nI_add]
      refine vc_X6_read_27 B ha (bf (by rw [i32le, i32_3, nIi (by omega)]; omega) ?_)
      rw [e, nI_1]
      refine ⟨vpN (by omega) (by omega), vpN (by omega) (by omega), fun v3 e3 => ?_⟩
      rw [clN (by omega), clN (by omega), hS.2 a hna] at e3
      subst e3
      refine ih (i + 1) _ (by omega) (hS.wV (by simp)) (fun x hx => ?_) (fun k hk => ?_)
      · rw [wV_ne (by decide)]; exact h1 x hx
      · by_cases hki : k = i
        · rw [hki, wV_at]
        · rw [wV_other _ _ _ _ _ (by omega)]; exact h2 k (by omega)
  have loop1 : ∀ (c x : Nat) (v1 : xS), x + c = 10 → Same [210, 214] v v1 → (∀ y, y < x → v1.1 210 y = v.1 a (at0 + y)) → aX6_read G (d + 1) 2 [some (.ref 200), some (.ref a), some (.int (nI at0)), some (.int (nI x))] [] z v1 Q := by
    intro c
    induction c with
    | zero =>
      intro x v1 hx hS h1
      have : x = 10 := by omega
      subst this
      exact vc_X6_read_2 B ha (bt (by decide) (loop2 3 0 v1 rfl hS h1 (fun k h => absurd h (Nat.not_lt_zero _))))
    | succ c ih =>
      intro x v1 hx hS h1
      have e : nI at0 + nI x = nI (at0 + x) := nI_add _ _
      refine vc_X6_read_2 B ha (bf (by rw [i32le, i32_10, nIi (by omega)]; omega) ?_)
      rw [e, nI_1]
      refine ⟨vpN (by omega) (by omega), vpN (by omega) (by omega), fun v3 e3 => ?_⟩
      rw [clN (by omega), clN (by omega), hS.2 a hna] at e3
      subst e3
      refine ih (x + 1) _ (by omega) (hS.wV (by simp)) (fun y hy => ?_)
      by_cases hyx : y = x
      · rw [hyx, wV_at]
      · rw [wV_other _ _ _ _ _ (by omega)]; exact h1 y (by omega)
  exact vc_X6_read B ha (loop1 10 0 v rfl (Same.rf _ _) (fun y h => absurd h (Nat.not_lt_zero _)))
/-- the heights and what BANDS MOVED are as they were -/
def Back (v v1 : xS) : Prop := (∀ x, x < 10 → v1.1 210 x = v.1 210 x) ∧ ∀ i, i < 3 → v1.1 214 i = v.1 214 i
/-- noted in a row of cells from a place on -/
def Noted (v0 v : xS) (a at0 : Nat) : Prop := (∀ x, x < 10 → v.1 a (at0 + x) = v0.1 210 x) ∧ ∀ i, i < 3 → v.1 a (at0 + 10 + i) = v0.1 214 i
theorem Gd.back {v1 : xS} (hD : DB D) (h : Gd v 210 D g) (hb : Back v v1) : Gd v1 210 D g := fun x hx => by rw [hb.1 x (by have := hD.1; omega)]; exact h x hx
theorem om_putAhead {Q : xS → Prop} (B : Base z) (hq : ∀ v1, Same [228] v v1 → Noted v v1 228 0 → Q v1) : oX6_putAhead G (d + 2) [.ref 200] z v Q :=
  vc_X6_putAhead B (om_write (at0 := 0) B (bI_228 B) ⟨by decide, by decide⟩ (by decide) (by decide) (fun v1 hS h1 h2 _ => hq v1 hS ⟨h1, h2⟩))
theorem om_comeBack {Q : xS → Prop} (B : Base z) {v0 : xS} (hN : Noted v0 v 228 0) (hq : ∀ v1, Same [210, 214] v v1 → Back v0 v1 → Q v1) : oX6_comeBack G (d + 2) [.ref 200] z v Q :=
  vc_X6_comeBack B (om_read (at0 := 0) B (bI_228 B) ⟨by decide, by decide⟩ (by decide) (by decide) (fun v1 hS h1 h2 => hq v1 hS ⟨fun x hx => (h1 x hx).trans (hN.1 x hx), fun i hi => (h2 i hi).trans (hN.2 i hi)⟩))
theorem om_wouldMove {Q : Int32 → xS → Prop} (B : Base z) (hL : LM v D) (hD : DB D) (hG : Gd v 210 D g) (hs : sm g (dn D) ≤ 90) {i t : Nat} (hi : i < db D) (ht : t < 3) (hq : ∀ v1, Same [210, 214, 223] v v1 → Back v v1 → Q (nI (sTune D i t g).2) v1) : oX6_wouldMove G (d + 6) [.ref 200, .int (nI i), .int (nI t)] z v Q := by
  refine vc_X6_wouldMove B (om_write (at0 := 0) B (bI_223 B) ⟨by decide, by decide⟩ (by decide) (by decide) (fun v1 hS h1 h2 _ => ?_))
  refine om_play B (hL.same hS) hD (hG.same hS (by decide)) hs hi ht (fun v2 hS2 _ => ?_)
  refine om_read (at0 := 0) B (bI_223 B) ⟨by decide, by decide⟩ (by decide) (by decide) (fun v3 hS3 h3 h4 => ?_)
  refine hq v3 (((hS.mono (by simp)).trans (hS2.mono (by simp))).trans (hS3.mono (by simp))) ⟨fun x hx => ?_, fun i hi => ?_⟩
  · rw [h3 x hx, Same1 hS2 (by decide)]; exact h1 x hx
  · rw [h4 i hi, Same1 hS2 (by decide)]; exact h2 i hi
theorem om_isSet {Q : Int32 → xS → Prop} (B : Base z) (hL : LM v D) (hD : DB D) {x : Int32} (h1 : inR x (2 ^ dn D) → Q 1 v) (h0 : ¬ inR x (2 ^ dn D) → Q 0 v) : oX6_isSet G (d + 2) [.ref 200, .int x] z v Q := by
  have hp : 2 ^ dn D ≤ 1024 := by
    have h : 2 ^ dn D ≤ 2 ^ 10 := Nat.pow_le_pow_right (by decide) hD.1
    exact h
  have hp1 : 1 ≤ 2 ^ dn D := Nat.one_le_pow _ _ (by decide)
  have e : ((1 : Int32) <<< ((v.1 200 8) &&& 31) - 1).toInt = (2 ^ dn D : Nat) - 1 := by
    rw [hL.1, shl1 _ (by have := hD.1; omega), nI_m1 hp1, nIi (by omega)]; omega
  refine vc_X6_isSet B (om_in B (fun a b => ⟨xbl_1, h1 ?_⟩) (fun a => ⟨xbl_0, h0 ?_⟩))
  · rw [i32_0] at a; rw [e] at b; unfold inR; omega
  · rw [i32_0, e] at a; unfold inR; omega
theorem om_isProgram {Q : Int32 → xS → Prop} (B : Base z) (hL : LM v D) (hD : DB D) {x : Int32} (h1 : inR x (3 ^ db D) → Q 1 v) (h0 : ¬ inR x (3 ^ db D) → Q 0 v) : oX6_isProgram G (d + 2) [.ref 200, .int x] z v Q := by
  have hp := pow3 hD.2.1
  have hp1 : 1 ≤ 3 ^ db D := Nat.one_le_pow _ _ (by decide)
  have e : (nI (3 ^ db D) - 1).toInt = (3 ^ db D : Nat) - 1 := by rw [nI_m1 hp1, nIi (by omega)]; omega
  refine vc_X6_isProgram B (om_programs B hL hD (om_in B (fun a b => ⟨xbl_1, h1 ?_⟩) (fun a => ⟨xbl_0, h0 ?_⟩)))
  · rw [i32_0] at a; rw [e] at b; unfold inR; omega
  · rw [i32_0, e] at a; unfold inR; omega
theorem om_allHigh {Q : Int32 → xS → Prop} (B : Base z) (hL : LM v D) (hD : DB D) (hG : Gd v 210 D g) (hq : Q (nI (sm g (dn D))) v) : oX6_allHigh G (d + 1) [.ref 200] z v Q := by
  have hn := hD.1
  have e : (v.1 200 8).toInt = dn D := by rw [hL.1]; exact nIi (by omega)
  have loop : ∀ (c x : Nat), x ≤ dn D → dn D - x = c → aX6_allHigh G (d + 1) 4 [some (.ref 200), some (.int (nI (sm g x))), some (.int (nI x))] [] z v Q := by
    intro c
    induction c with
    | zero =>
      intro x hx hc
      have ei : x = dn D := by omega
      subst ei
      exact vc_X6_allHigh_4 B (bt (by rw [i32le, e, nIi (by omega)]; omega) hq)
    | succ c ih =>
      intro x hx hc
      refine vc_X6_allHigh_4 B (bf (by rw [i32le, e, nIi (by omega)]; omega) ⟨vpN (by omega) (by omega), ?_⟩)
      have := ih (x + 1) (by omega) (by omega)
      rw [sm, ← nI_1 x, ← nI_add] at this
      rw [clN (by omega), hG x (by omega)]
      exact this
  exact vc_X6_allHigh B (loop (dn D) 0 (Nat.zero_le _) (by omega))
theorem om_topOf {Q : Int32 → xS → Prop} (B : Base z) (hD : DB D) (hG : Gd v 210 D g) (hs : sm g (dn D) ≤ 90) {x y : Nat} (hxy : x ≤ y) (hy : y < dn D) (hq : Q (nI (sTop g x (y - x))) v) : oX6_topOf G (d + 1) [.ref 200, .int (nI x), .int (nI y)] z v Q := by
  have hn := hD.1
  have loop : ∀ (c k : Nat), k ≤ y - x → (y - x) - k = c → aX6_topOf G (d + 1) 7 [some (.ref 200), some (.int (nI x)), some (.int (nI y)), some (.int (nI (sTop g x k))), some (.int (nI (x + k + 1)))] [] z v Q := by
    intro c
    induction c with
    | zero =>
      intro k hk hc
      have ek : k = y - x := by omega
      subst ek
      exact vc_X6_topOf_7 B (bt (by rw [i32lt, nIi (by omega), nIi (by omega)]; omega) hq)
    | succ c ih =>
      intro k hk hc
      have ht := sTop_in g x k
      have h1 := sm_le (g := g) (n := dn D) (x := x + k + 1) (by omega)
      have h2 := sm_le (g := g) (n := dn D) (x := sTop g x k) (by omega)
      have := ih (k + 1) (by omega) (by omega)
      rw [sTop, show x + (k + 1) + 1 = (x + k + 1) + 1 by omega, ← nI_1 (x + k + 1)] at this
      refine vc_X6_topOf_7 B (bf (by rw [i32lt, nIi (by omega), nIi (by omega)]; omega) ⟨vpN (by omega) (by omega), vpN (by omega) (by omega), ?_⟩)
      rw [clN (by omega), clN (by omega), hG _ (by omega), hG _ (by omega)]
      refine ⟨fun c2 => ?_, fun c2 => ?_⟩
      · rw [i32le, nIi (by omega), nIi (by omega)] at c2
        rw [if_neg (by omega)] at this
        exact this
      · rw [i32le, nIi (by omega), nIi (by omega)] at c2
        rw [if_pos (by omega)] at this
        exact this
  refine vc_X6_topOf B ?_
  have := loop (y - x) 0 (Nat.zero_le _) (by omega)
  rw [Nat.add_zero, ← nI_1 x] at this
  exact this
theorem om_highestNow {Q : Int32 → xS → Prop} (B : Base z) (hL : LM v D) (hD : DB D) (hG : Gd v 210 D g) (hs : sm g (dn D) ≤ 90) (hq : Q (nI (sHigh (dn D) g)) v) : oX6_highestNow G (d + 2) [.ref 200] z v Q := by
  have hn := hD.1
  unfold sHigh at hq
  refine vc_X6_highestNow B ⟨fun c => ?_, fun c => ?_⟩
  · rw [hL.1] at c ⊢
    have h0 : dn D ≠ 0 := fun q => c (by rw [q]; rfl)
    have ht := sTop_in g 0 (dn D - 1)
    rw [nI_m1 (by omega)]
    refine om_topOf (x := 0) B hD hG hs (Nat.zero_le _) (by omega) ⟨vpN (by rw [Nat.sub_zero]; omega) (by omega), ?_⟩
    rw [Nat.sub_zero, clN (by omega), hG _ (by omega)]
    rw [if_neg h0] at hq
    exact hq
  · rw [hL.1] at c
    rw [if_pos (nIinj (b := 0) (by omega) (by omega) c)] at hq
    exact hq
theorem om_setWas {Q : xS → Prop} (B : Base z) (hq : ∀ v1, Same [229] v v1 → (∀ x, x < 10 → v1.1 229 x = v.1 210 x) → Q v1) : oX6_setWas G (d + 1) [.ref 200] z v Q := by
  have loop : ∀ (c x : Nat) (v1 : xS), x + c = 10 → Same [229] v v1 → (∀ y, y < x → v1.1 229 y = v.1 210 y) → aX6_setWas G (d + 1) 2 [some (.ref 200), some (.int (nI x))] [] z v1 Q := by
    intro c
    induction c with
    | zero =>
      intro x v1 hx hS h1
      have : x = 10 := by omega
      subst this
      exact vc_X6_setWas_2 B (bt (by decide) (hq v1 hS h1))
    | succ c ih =>
      intro x v1 hx hS h1
      have vx := vpN (j := x) (n := 10) (by omega) (by omega)
      refine vc_X6_setWas_2 B (bf (by rw [i32le, i32_10, nIi (by omega)]; omega) ⟨vx, vx, fun v3 e3 => ?_⟩)
      rw [clN (by omega), Same1 hS (by decide)] at e3
      subst e3
      rw [nI_1]
      refine ih (x + 1) _ (by omega) (hS.wV (by simp)) (fun y hy => ?_)
      by_cases hyx : y = x
      · rw [hyx, wV_at]
      · rw [wV_other _ _ _ _ _ hyx]; exact h1 y (by omega)
  exact vc_X6_setWas B (loop 10 0 v rfl (Same.rf _ _) (fun y h => absurd h (Nat.not_lt_zero _)))
theorem om_isWas {Q : Int32 → xS → Prop} (B : Base z) (hL : LM v D) (hD : DB D) {g' : Nat → Nat} (hG : Gd v 210 D g) (hW : Gd v 229 D g') (hs : sm g (dn D) ≤ 90) (hs' : sm g' (dn D) ≤ 90) (h1 : sEqv D g' g = true → Q 1 v) (h0 : sEqv D g' g = false → Q 0 v) : oX6_isWas G (d + 1) [.ref 200] z v Q := by
  have hn := hD.1
  have e : (v.1 200 8).toInt = dn D := by rw [hL.1]; exact nIi (by omega)
  have loop : ∀ (c x : Nat) (b : Bool), x ≤ dn D → dn D - x = c → (b = true ↔ ∀ y, y < x → g' y = g y) → aX6_isWas G (d + 1) 4 [some (.ref 200), some (.int (if b = true then 1 else 0)), some (.int (nI x))] [] z v Q := by
    intro c
    induction c with
    | zero =>
      intro x b hx hc hb
      have ex : x = dn D := by omega
      subst ex
      refine vc_X6_isWas_4 B (bt (by rw [i32le, e, nIi (by omega)]; omega) ?_)
      cases b
      · exact ⟨xbl_0, h0 (decide_eq_false (fun q => absurd (hb.mpr q) (by decide)))⟩
      · exact ⟨xbl_1, h1 (decide_eq_true (hb.mp rfl))⟩
    | succ c ih =>
      intro x b hx hc hb
      have v10 := vpN (j := x) (n := 10) (by omega) (by omega)
      have hg1 := sm_le (g := g) (n := dn D) (x := x) (by omega)
      have hg2 := sm_le (g := g') (n := dn D) (x := x) (by omega)
      refine vc_X6_isWas_4 B (bf (by rw [i32le, e, nIi (by omega)]; omega) ?_)
      rw [nI_1]
      cases b
      · refine br0 (ih (x + 1) false (by omega) (by omega) ?_)
        refine ⟨fun q => absurd q (by decide), fun q => hb.mpr (fun y hy => q y (by omega))⟩
      · refine br1 ⟨v10, v10, ?_⟩
        rw [clN (by omega), hG x (by omega), hW x (by omega)]
        refine ⟨fun c1 => ih (x + 1) false (by omega) (by omega) ?_, fun c1 => ih (x + 1) true (by omega) (by omega) ?_⟩
        · exact ⟨fun q => absurd q (by decide), fun q => absurd (by rw [q x (by omega)]) c1⟩
        · refine ⟨fun _ y hy => ?_, fun _ => rfl⟩
          by_cases hyx : y = x
          · rw [hyx]; exact nIinj (by omega) (by omega) c1
          · exact hb.mp rfl y (by omega)
  exact vc_X6_isWas B (loop (dn D) 0 true (Nat.zero_le _) (by omega) ⟨fun _ y h => absurd h (Nat.not_lt_zero _), fun _ => rfl⟩)
end MEVE
