/-! keep: a land may be made -/
def ZZ (z : xZ) : Prop := Base z ∧ Zc z ∧ (∀ a, a ∈ z.1 → a < 300) ∧ (∀ j, j < 3 → z.2 100 j = none → ∀ k, k < 9 → 40 + 10 * j + k ∉ z.1)
/-- behind the constructor of a kept land -/
def ZL (z z1 : xZ) (j : Nat) : Prop := (∀ a, a ∈ z1.1 ↔ a ∈ z.1 ∨ (40 + 10 * j ≤ a ∧ a < 49 + 10 * j)) ∧ (∀ a, (a < 40 + 10 * j ∨ 49 + 10 * j ≤ a) → z1.2 a = z.2 a) ∧ xLandAt z1 (40 + 10 * j) ∧ Zc z1
theorem xB_kept : ∀ a, a ∈ xBase → a < 40 ∨ 70 ≤ a := by decide +kernel
theorem ZL.base {z z1 : xZ} {j : Nat} (h : ZL z z1 j) (hj : j < 3) (B : Base z) : Base z1 := by
  refine ⟨fun a ha => (h.1 a).mpr (Or.inl (B.1 a ha)), fun a ha h1 k b hb => ?_⟩
  have := xB_kept a ha
  rw [h.2.1 a (by omega)]
  exact B.2 a ha h1 k b hb
theorem nv_ne {v : xS} {a b : Nat} (h : b ≠ a) : (nv v a).1 b = v.1 b := by unfold nv va_up; simp [h]
theorem nz_ne {z : xZ} {a b : Nat} (h : b ≠ a) : (nz z a).2 b = z.2 b := by unfold nz va_up; simp [h]
theorem nz_at {z : xZ} {a : Nat} : (nz z a).2 a = fun _ => none := by unfold nz va_up; simp
theorem wR_ne {z : xZ} {a k b : Nat} {x : Option Nat} (h : b ≠ a) : (wR z a k x).2 b = z.2 b := by unfold wR va_up; simp [h]
theorem wR_at {z : xZ} {a k : Nat} {x : Option Nat} : (wR z a k x).2 a k = x := by unfold wR va_up; simp
theorem wR_other {z : xZ} {a k i : Nat} {x : Option Nat} (h : i ≠ k) : (wR z a k x).2 a i = z.2 a i := by unfold wR va_up; simp [h]
theorem zl_40 {z : xZ} (hz : Zc z) : ZL z (lz_40 (nz z 40)) 0 := by
  have hm : ∀ b, b ∈ (lz_40 (nz z 40)).1 ↔ b ∈ z.1 ∨ (40 ≤ b ∧ b < 49) := by
    intro b
    unfold lz_40
    simp only [mem_nz, mem_wR]
    constructor
    · intro h
      rcases h with ((((((((h | h) | h) | h) | h) | h) | h) | h) | h) | h
      · exact Or.inl h
      all_goals exact Or.inr (by omega)
    · intro h
      rcases h with h | h
      · simp [h]
      · have h9 : b = 40 ∨ b = 41 ∨ b = 42 ∨ b = 43 ∨ b = 44 ∨ b = 45 ∨ b = 46 ∨ b = 47 ∨ b = 48 := by omega
        rcases h9 with h9 | h9 | h9 | h9 | h9 | h9 | h9 | h9 | h9 <;> simp [h9]
  refine ⟨hm, fun b hb => ?_, ⟨⟨(hm _).mpr (Or.inr (by omega)), by decide +kernel⟩, fun k h1 h2 => ⟨?_, (hm _).mpr (Or.inr (by omega)), ?_⟩⟩, zc_lz_40 (nz_Zc hz) (by simp [mem_nz])⟩
  · unfold lz_40
    rw [wR_ne (by omega), nz_ne (by omega), wR_ne (by omega), nz_ne (by omega), wR_ne (by omega), nz_ne (by omega), wR_ne (by omega), nz_ne (by omega), wR_ne (by omega), nz_ne (by omega), wR_ne (by omega), nz_ne (by omega), wR_ne (by omega), nz_ne (by omega), wR_ne (by omega), nz_ne (by omega), nz_ne (by omega)]
  · match k, h1, h2 with
    | 4, _, _ =>
      show (lz_40 (nz z 40)).2 40 4 = some 41
      unfold lz_40
      rw [wR_other (by decide), nz_ne (by decide), wR_other (by decide), nz_ne (by decide), wR_other (by decide), nz_ne (by decide), wR_other (by decide), nz_ne (by decide), wR_other (by decide), nz_ne (by decide), wR_other (by decide), nz_ne (by decide), wR_other (by decide), nz_ne (by decide), wR_at]
    | 5, _, _ =>
      show (lz_40 (nz z 40)).2 40 5 = some 42
      unfold lz_40
      rw [wR_other (by decide), nz_ne (by decide), wR_other (by decide), nz_ne (by decide), wR_other (by decide), nz_ne (by decide), wR_other (by decide), nz_ne (by decide), wR_other (by decide), nz_ne (by decide), wR_other (by decide), nz_ne (by decide), wR_at]
    | 6, _, _ =>
      show (lz_40 (nz z 40)).2 40 6 = some 43
      unfold lz_40
      rw [wR_other (by decide), nz_ne (by decide), wR_other (by decide), nz_ne (by decide), wR_other (by decide), nz_ne (by decide), wR_other (by decide), nz_ne (by decide), wR_other (by decide), nz_ne (by decide), wR_at]
    | 7, _, _ =>
      show (lz_40 (nz z 40)).2 40 7 = some 44
      unfold lz_40
      rw [wR_other (by decide), nz_ne (by decide), wR_other (by decide), nz_ne (by decide), wR_other (by decide), nz_ne (by decide), wR_other (by decide), nz_ne (by decide), wR_at]
    | 8, _, _ =>
      show (lz_40 (nz z 40)).2 40 8 = some 45
      unfold lz_40
      rw [wR_other (by decide), nz_ne (by decide), wR_other (by decide), nz_ne (by decide), wR_other (by decide), nz_ne (by decide), wR_at]
    | 9, _, _ =>
      show (lz_40 (nz z 40)).2 40 9 = some 46
      unfold lz_40
      rw [wR_other (by decide), nz_ne (by decide), wR_other (by decide), nz_ne (by decide), wR_at]
    | 10, _, _ =>
      show (lz_40 (nz z 40)).2 40 10 = some 47
      unfold lz_40
      rw [wR_other (by decide), nz_ne (by decide), wR_at]
    | 11, _, _ =>
      show (lz_40 (nz z 40)).2 40 11 = some 48
      unfold lz_40
      rw [wR_at]
  · match k, h1, h2 with
    | 4, _, _ => decide +kernel
    | 5, _, _ => decide +kernel
    | 6, _, _ => decide +kernel
    | 7, _, _ => decide +kernel
    | 8, _, _ => decide +kernel
    | 9, _, _ => decide +kernel
    | 10, _, _ => decide +kernel
    | 11, _, _ => decide +kernel
theorem vl_40 {v : xS} {b : Nat} (hb : b < 40 ∨ 49 ≤ b) : (lw_40 (nv v 40)).1 b = v.1 b := by
  unfold lw_40
  rw [nv_ne (by omega), nv_ne (by omega), nv_ne (by omega), nv_ne (by omega), nv_ne (by omega), nv_ne (by omega), nv_ne (by omega), nv_ne (by omega), wV_ne (by omega), wV_ne (by omega), wV_ne (by omega), wV_ne (by omega), nv_ne (by omega)]
theorem zl_50 {z : xZ} (hz : Zc z) : ZL z (lz_50 (nz z 50)) 1 := by
  have hm : ∀ b, b ∈ (lz_50 (nz z 50)).1 ↔ b ∈ z.1 ∨ (50 ≤ b ∧ b < 59) := by
    intro b
    unfold lz_50
    simp only [mem_nz, mem_wR]
    constructor
    · intro h
      rcases h with ((((((((h | h) | h) | h) | h) | h) | h) | h) | h) | h
      · exact Or.inl h
      all_goals exact Or.inr (by omega)
    · intro h
      rcases h with h | h
      · simp [h]
      · have h9 : b = 50 ∨ b = 51 ∨ b = 52 ∨ b = 53 ∨ b = 54 ∨ b = 55 ∨ b = 56 ∨ b = 57 ∨ b = 58 := by omega
        rcases h9 with h9 | h9 | h9 | h9 | h9 | h9 | h9 | h9 | h9 <;> simp [h9]
  refine ⟨hm, fun b hb => ?_, ⟨⟨(hm _).mpr (Or.inr (by omega)), by decide +kernel⟩, fun k h1 h2 => ⟨?_, (hm _).mpr (Or.inr (by omega)), ?_⟩⟩, zc_lz_50 (nz_Zc hz) (by simp [mem_nz])⟩
  · unfold lz_50
    rw [wR_ne (by omega), nz_ne (by omega), wR_ne (by omega), nz_ne (by omega), wR_ne (by omega), nz_ne (by omega), wR_ne (by omega), nz_ne (by omega), wR_ne (by omega), nz_ne (by omega), wR_ne (by omega), nz_ne (by omega), wR_ne (by omega), nz_ne (by omega), wR_ne (by omega), nz_ne (by omega), nz_ne (by omega)]
  · match k, h1, h2 with
    | 4, _, _ =>
      show (lz_50 (nz z 50)).2 50 4 = some 51
      unfold lz_50
      rw [wR_other (by decide), nz_ne (by decide), wR_other (by decide), nz_ne (by decide), wR_other (by decide), nz_ne (by decide), wR_other (by decide), nz_ne (by decide), wR_other (by decide), nz_ne (by decide), wR_other (by decide), nz_ne (by decide), wR_other (by decide), nz_ne (by decide), wR_at]
    | 5, _, _ =>
      show (lz_50 (nz z 50)).2 50 5 = some 52
      unfold lz_50
      rw [wR_other (by decide), nz_ne (by decide), wR_other (by decide), nz_ne (by decide), wR_other (by decide), nz_ne (by decide), wR_other (by decide), nz_ne (by decide), wR_other (by decide), nz_ne (by decide), wR_other (by decide), nz_ne (by decide), wR_at]
    | 6, _, _ =>
      show (lz_50 (nz z 50)).2 50 6 = some 53
      unfold lz_50
      rw [wR_other (by decide), nz_ne (by decide), wR_other (by decide), nz_ne (by decide), wR_other (by decide), nz_ne (by decide), wR_other (by decide), nz_ne (by decide), wR_other (by decide), nz_ne (by decide), wR_at]
    | 7, _, _ =>
      show (lz_50 (nz z 50)).2 50 7 = some 54
      unfold lz_50
      rw [wR_other (by decide), nz_ne (by decide), wR_other (by decide), nz_ne (by decide), wR_other (by decide), nz_ne (by decide), wR_other (by decide), nz_ne (by decide), wR_at]
    | 8, _, _ =>
      show (lz_50 (nz z 50)).2 50 8 = some 55
      unfold lz_50
      rw [wR_other (by decide), nz_ne (by decide), wR_other (by decide), nz_ne (by decide), wR_other (by decide), nz_ne (by decide), wR_at]
    | 9, _, _ =>
      show (lz_50 (nz z 50)).2 50 9 = some 56
      unfold lz_50
      rw [wR_other (by decide), nz_ne (by decide), wR_other (by decide), nz_ne (by decide), wR_at]
    | 10, _, _ =>
      show (lz_50 (nz z 50)).2 50 10 = some 57
      unfold lz_50
      rw [wR_other (by decide), nz_ne (by decide), wR_at]
    | 11, _, _ =>
      show (lz_50 (nz z 50)).2 50 11 = some 58
      unfold lz_50
      rw [wR_at]
  · match k, h1, h2 with
    | 4, _, _ => decide +kernel
    | 5, _, _ => decide +kernel
    | 6, _, _ => decide +kernel
    | 7, _, _ => decide +kernel
    | 8, _, _ => decide +kernel
    | 9, _, _ => decide +kernel
    | 10, _, _ => decide +kernel
    | 11, _, _ => decide +kernel
theorem vl_50 {v : xS} {b : Nat} (hb : b < 50 ∨ 59 ≤ b) : (lw_50 (nv v 50)).1 b = v.1 b := by
  unfold lw_50
  rw [nv_ne (by omega), nv_ne (by omega), nv_ne (by omega), nv_ne (by omega), nv_ne (by omega), nv_ne (by omega), nv_ne (by omega), nv_ne (by omega), wV_ne (by omega), wV_ne (by omega), wV_ne (by omega), wV_ne (by omega), nv_ne (by omega)]
theorem zl_60 {z : xZ} (hz : Zc z) : ZL z (lz_60 (nz z 60)) 2 := by
  have hm : ∀ b, b ∈ (lz_60 (nz z 60)).1 ↔ b ∈ z.1 ∨ (60 ≤ b ∧ b < 69) := by
    intro b
    unfold lz_60
    simp only [mem_nz, mem_wR]
    constructor
    · intro h
      rcases h with ((((((((h | h) | h) | h) | h) | h) | h) | h) | h) | h
      · exact Or.inl h
      all_goals exact Or.inr (by omega)
    · intro h
      rcases h with h | h
      · simp [h]
      · have h9 : b = 60 ∨ b = 61 ∨ b = 62 ∨ b = 63 ∨ b = 64 ∨ b = 65 ∨ b = 66 ∨ b = 67 ∨ b = 68 := by omega
        rcases h9 with h9 | h9 | h9 | h9 | h9 | h9 | h9 | h9 | h9 <;> simp [h9]
  refine ⟨hm, fun b hb => ?_, ⟨⟨(hm _).mpr (Or.inr (by omega)), by decide +kernel⟩, fun k h1 h2 => ⟨?_, (hm _).mpr (Or.inr (by omega)), ?_⟩⟩, zc_lz_60 (nz_Zc hz) (by simp [mem_nz])⟩
  · unfold lz_60
    rw [wR_ne (by omega), nz_ne (by omega), wR_ne (by omega), nz_ne (by omega), wR_ne (by omega), nz_ne (by omega), wR_ne (by omega), nz_ne (by omega), wR_ne (by omega), nz_ne (by omega), wR_ne (by omega), nz_ne (by omega), wR_ne (by omega), nz_ne (by omega), wR_ne (by omega), nz_ne (by omega), nz_ne (by omega)]
  · match k, h1, h2 with
    | 4, _, _ =>
      show (lz_60 (nz z 60)).2 60 4 = some 61
      unfold lz_60
      rw [wR_other (by decide), nz_ne (by decide), wR_other (by decide), nz_ne (by decide), wR_other (by decide), nz_ne (by decide), wR_other (by decide), nz_ne (by decide), wR_other (by decide), nz_ne (by decide), wR_other (by decide), nz_ne (by decide), wR_other (by decide), nz_ne (by decide), wR_at]
    | 5, _, _ =>
      show (lz_60 (nz z 60)).2 60 5 = some 62
      unfold lz_60
      rw [wR_other (by decide), nz_ne (by decide), wR_other (by decide), nz_ne (by decide), wR_other (by decide), nz_ne (by decide), wR_other (by decide), nz_ne (by decide), wR_other (by decide), nz_ne (by decide), wR_other (by decide), nz_ne (by decide), wR_at]
    | 6, _, _ =>
      show (lz_60 (nz z 60)).2 60 6 = some 63
      unfold lz_60
      rw [wR_other (by decide), nz_ne (by decide), wR_other (by decide), nz_ne (by decide), wR_other (by decide), nz_ne (by decide), wR_other (by decide), nz_ne (by decide), wR_other (by decide), nz_ne (by decide), wR_at]
    | 7, _, _ =>
      show (lz_60 (nz z 60)).2 60 7 = some 64
      unfold lz_60
      rw [wR_other (by decide), nz_ne (by decide), wR_other (by decide), nz_ne (by decide), wR_other (by decide), nz_ne (by decide), wR_other (by decide), nz_ne (by decide), wR_at]
    | 8, _, _ =>
      show (lz_60 (nz z 60)).2 60 8 = some 65
      unfold lz_60
      rw [wR_other (by decide), nz_ne (by decide), wR_other (by decide), nz_ne (by decide), wR_other (by decide), nz_ne (by decide), wR_at]
    | 9, _, _ =>
      show (lz_60 (nz z 60)).2 60 9 = some 66
      unfold lz_60
      rw [wR_other (by decide), nz_ne (by decide), wR_other (by decide), nz_ne (by decide), wR_at]
    | 10, _, _ =>
      show (lz_60 (nz z 60)).2 60 10 = some 67
      unfold lz_60
      rw [wR_other (by decide), nz_ne (by decide), wR_at]
    | 11, _, _ =>
      show (lz_60 (nz z 60)).2 60 11 = some 68
      unfold lz_60
      rw [wR_at]
  · match k, h1, h2 with
    | 4, _, _ => decide +kernel
    | 5, _, _ => decide +kernel
    | 6, _, _ => decide +kernel
    | 7, _, _ => decide +kernel
    | 8, _, _ => decide +kernel
    | 9, _, _ => decide +kernel
    | 10, _, _ => decide +kernel
    | 11, _, _ => decide +kernel
theorem vl_60 {v : xS} {b : Nat} (hb : b < 60 ∨ 69 ≤ b) : (lw_60 (nv v 60)).1 b = v.1 b := by
  unfold lw_60
  rw [nv_ne (by omega), nv_ne (by omega), nv_ne (by omega), nv_ne (by omega), nv_ne (by omega), nv_ne (by omega), nv_ne (by omega), nv_ne (by omega), wV_ne (by omega), wV_ne (by omega), wV_ne (by omega), wV_ne (by omega), nv_ne (by omega)]
section PKEEP
variable {G : xG} {d : Nat} {z : xZ} {v : xS} {R : xR}
theorem oc_land {j : Nat} (hj : j < 3) (hz : Zc z) (hf : ∀ k, k < 9 → 40 + 10 * j + k ∉ z.1) : Ok G (d + 1) 8 862 yX1_init cX1_init 1 none [.ref (40 + 10 * j)] (nz z (40 + 10 * j)) (nv v (40 + 10 * j)) (fun r z1 v1 => r = none ∧ ZL z z1 j ∧ ∀ b, (b < 40 + 10 * j ∨ 49 + 10 * j ≤ b) → v1.1 b = v.1 b) := by
  have hn : ∀ k, k < 9 → 0 < k → 40 + 10 * j + k ∉ (nz z (40 + 10 * j)).1 := fun k h1 h2 q => by
    rcases mem_nz.mp q with q | q
    · exact hf k h1 q
    · omega
  match j, hj, hn with
  | 0, _, hn => exact Ok.mono (oc_X1_40 (nz_Zc hz) (by simp [mem_nz]) (hn 1 (by decide) (by decide)) (hn 2 (by decide) (by decide)) (hn 3 (by decide) (by decide)) (hn 4 (by decide) (by decide)) (hn 5 (by decide) (by decide)) (hn 6 (by decide) (by decide)) (hn 7 (by decide) (by decide)) (hn 8 (by decide) (by decide))) (fun r z1 v1 h => ⟨h.1, by rw [h.2.1]; exact zl_40 hz, fun b hb => by rw [h.2.2]; exact vl_40 hb⟩)
  | 1, _, hn => exact Ok.mono (oc_X1_50 (nz_Zc hz) (by simp [mem_nz]) (hn 1 (by decide) (by decide)) (hn 2 (by decide) (by decide)) (hn 3 (by decide) (by decide)) (hn 4 (by decide) (by decide)) (hn 5 (by decide) (by decide)) (hn 6 (by decide) (by decide)) (hn 7 (by decide) (by decide)) (hn 8 (by decide) (by decide))) (fun r z1 v1 h => ⟨h.1, by rw [h.2.1]; exact zl_50 hz, fun b hb => by rw [h.2.2]; exact vl_50 hb⟩)
  | 2, _, hn => exact Ok.mono (oc_X1_60 (nz_Zc hz) (by simp [mem_nz]) (hn 1 (by decide) (by decide)) (hn 2 (by decide) (by decide)) (hn 3 (by decide) (by decide)) (hn 4 (by decide) (by decide)) (hn 5 (by decide) (by decide)) (hn 6 (by decide) (by decide)) (hn 7 (by decide) (by decide)) (hn 8 (by decide) (by decide))) (fun r z1 v1 h => ⟨h.1, by rw [h.2.1]; exact zl_60 hz, fun b hb => by rw [h.2.2]; exact vl_60 hb⟩)
/-- the class keeps, from where the land is there -/
theorem kp_50 {Q : Option Value → xZ → xS → Prop} {kc kn j : Nat} (B : Base z) (hj : j < 3) (hl : xLandAt z (40 + 10 * j)) (hO : OKR R) (hC : CR v 30 R) (h1 : kc ≤ 9) (h2 : kn ≤ 874) (hq : ∀ v1, (∀ a, (a < 40 + 10 * j ∨ 49 + 10 * j ≤ a) → a ≠ 101 → v1.1 a = v.1 a) → v1.1 101 = upd (v.1 101) j 1 → CR v1 (40 + 10 * j) R → Q (some (.int (nI (re R)))) z v1) : AW G (d + 2) 9 874 yX5_keep cX5_keep 3 (some .int) RX5 kc kn 50 [some (.ref 0), some (.int (nI j)), some (.ref (40 + 10 * j))] [] z v Q := by
  refine AW_aload_n dX5_keep_50 rfl rfl ?_
  refine AW_aload_n dX5_keep_51 rfl rfl ?_
  refine AW_getR dX5_keep_52 (bI_0 B) fl_X5_31 (bR_0_3 B) ?_
  refine AW_vV (QI := fun v1 => (∀ a, (a < 40 + 10 * j ∨ 40 + 10 * j + 9 ≤ a) → v1.1 a = v.1 a) ∧ CR v1 (40 + 10 * j) R) (c := 1) (as := [.ref 30]) (st := []) dX5_keep_55 hl.1 (by decide) rfl mv_X1_becomeLike mi_X1_becomeLike ml_X5_192 (Nat.le_of_ble_eq_true rfl) rfl h1 h2 (ok_becomeLike B hl (bL_30 B) (by omega) hO hC (fun v1 hr _ hC1 => ⟨hr, hC1⟩)) (fun v1 H => ?_)
  obtain ⟨hr, hC1⟩ := H
  refine AW_aload_n dX5_keep_58 rfl rfl ?_
  refine AW_getR dX5_keep_59 (bI_0 B) fl_X5_55 (bR_0_7 B) ?_
  refine AW_iload_n dX5_keep_62 rfl rfl ?_
  refine AW_iconst (x := 1) dX5_keep_63 (by decide) ?_
  refine AW_zastN dX5_keep_64 (bI_101 B) (vpN hj (by omega)) (by decide) (fun v2 e2 => ?_)
  rw [clN (by omega)] at e2
  refine AW_aload_n dX5_keep_65 rfl rfl ?_
  refine AW_getR dX5_keep_66 (bI_0 B) fl_X5_31 (bR_0_3 B) ?_
  refine AW_getI dX5_keep_69 (bI_30 B) fl_X5_173 ?_
  have r2 : ∀ a, a ≠ 101 → v2.1 a = v1.1 a := fun a ha => by rw [e2, wV_ne ha]
  have e30 : v2.1 30 3 = nI (re R) := by rw [r2 30 (by decide), hr 30 (by omega)]; exact hC.1.2.2.2
  rw [e30]
  refine AW_iret dX5_keep_72 rfl rfl h1 h2 (hq v2 (fun a q1 q2 => by rw [r2 a q2, hr a (by omega)]) ?_ (hC1.fr (fun k hk => r2 _ (by omega))))
  rw [e2, wV_self, hr 101 (by omega)]
/-- the class keeps, where the land is to be made -/
theorem kp_35 {Q : Option Value → xZ → xS → Prop} {j : Nat} (B : Base z) (hj : j < 3) (hz : Zc z) (hf : ∀ k, k < 9 → 40 + 10 * j + k ∉ z.1)
    (kk : ∀ (z1 : xZ) (v1 : xS), ZL z z1 j → (∀ a, (a < 40 + 10 * j ∨ 49 + 10 * j ≤ a) → v1.1 a = v.1 a) → AW G (d + 2) 9 874 yX5_keep cX5_keep 3 (some .int) RX5 9 874 50 [some (.ref 0), some (.int (nI j)), some (.ref (40 + 10 * j))] [] (wR z1 100 j (some (40 + 10 * j))) v1 Q) : AW G (d + 2) 9 874 yX5_keep cX5_keep 3 (some .int) RX5 0 0 35 [some (.ref 0), some (.int (nI j)), some .null] [] z v Q := by
  have hs : SH (40 + 10 * j) = (1, xcN 1) := by
    match j, hj with
    | 0, _ => decide +kernel
    | 1, _ => decide +kernel
    | 2, _ => decide +kernel
  have h0 : 0 ∈ z.1 := B.1 0 (by decide +kernel)
  refine AW_new (a := 40 + 10 * j) (c := 1) dX5_keep_35 (by decide) hs cl_X5_28 in_X1 iz_X1 (hf 0 (by decide)) hz (fun i hi => by omega) ⟨fun w hw => absurd hw List.not_mem_nil, fun w hw q => by subst q; simp at hw⟩ (by decide) (by decide) ?_
  refine AW_dup dX5_keep_38 rfl ?_
  refine AW_callIN (host := "MovingHills") (as := []) (a := 40 + 10 * j) (st := [.ref (40 + 10 * j)]) dX5_keep_39 mv_X1_init ii_X1 (by decide +kernel) (Nat.lt_succ_self _) (Nat.le_of_ble_eq_true rfl) (mc' := 8) (ms' := 862) (by decide) (by decide) ⟨fun x hx => ?_, fun x hx => ?_⟩ (oc_land hj hz hf) (fun z1 v1 h => ?_)
  · simp at hx
    subst hx
    simp [mem_nz]
  · simp at hx
    subst hx
    simp [mem_nz, h0]
  obtain ⟨hZL, hv⟩ := h
  have B1 := hZL.base hj B
  refine AW_astore_n (L' := [some (.ref 0), some (.int (nI j)), some (.ref (40 + 10 * j))]) dX5_keep_42 rfl (by decide) rfl ?_
  refine AW_aload_n dX5_keep_43 rfl rfl ?_
  refine AW_getR dX5_keep_44 (bI_0 B1) fl_X5_51 (bR_0_6 B1) ?_
  refine AW_iload_n dX5_keep_47 rfl rfl ?_
  refine AW_aload_n dX5_keep_48 rfl rfl ?_
  refine AW_aast dX5_keep_49 (bI_100 B1) hZL.2.2.1.1 (vpN hj (by omega)) ?_
  rw [clN (by omega)]
  exact kk z1 v1 hZL hv
theorem KR.at {v v1 : xS} {j : Nat} {R : xR} (h : KR v j R) (hD : DB (rD R)) (h60 : re R ≤ 60) (hs : ∀ q, 920 * j ≤ q → q < 920 * j + 920 → v1.1 227 q = v.1 227 q) : KR v1 j R := by
  obtain ⟨⟨a, b⟩, c, e, f⟩ := h
  have hn := hD.1
  have hb := hD.2.1
  refine ⟨⟨?_, ?_⟩, fun i hi => ⟨?_, ?_⟩, fun x hx => ?_, fun k hk => ⟨?_, fun x hx => ?_, fun i hi => ?_⟩⟩
  · rw [hs _ (by omega) (by omega)]; exact a
  · rw [hs _ (by omega) (by omega)]; exact b
  · rw [hs _ (by omega) (by omega)]; exact (c i hi).1
  · rw [hs _ (by omega) (by omega)]; exact (c i hi).2
  · rw [hs _ (by omega) (by omega)]; exact e x hx
  · rw [hs _ (by omega) (by omega)]; exact (f k hk).1
  · rw [hs _ (by omega) (by omega)]; exact (f k hk).2.1 x hx
  · rw [hs _ (by omega) (by omega)]; exact (f k hk).2.2 i hi
theorem InvR.keep {z1 : xZ} {v2 : xS} {j : Nat} (hj : j < 3) (h : InvR z v R) (hz1 : Zk z1) (hzo : ∀ i, i < 3 → i ≠ j → z1.2 100 i = z.2 100 i) (hzj : z1.2 100 j = some (40 + 10 * j)) (hr : ∀ a, (a < 40 + 10 * j ∨ 49 + 10 * j ≤ a) → a ≠ 101 → a ≠ 227 → v2.1 a = v.1 a) (h101 : v2.1 101 = upd (v.1 101) j 1) (h227 : ∀ q, (q < 920 * j ∨ 920 * j + 920 ≤ q) → v2.1 227 q = v.1 227 q) (hC : CR v2 (40 + 10 * j) R) (hK : KR v2 j R) : InvR z1 v2 R := by
  obtain ⟨⟨h1, h2, h3, h4, h5, h6, h7⟩, ⟨f1, f2⟩, g⟩ := h
  have k0 : ∀ a, (a < 40 ∨ 70 ≤ a) → a ≠ 101 → a ≠ 227 → v2.1 a = v.1 a := fun a q => hr a (by omega)
  refine ⟨⟨hz1, h2, h3.fr (fun k hk => k0 _ (by omega) (by omega) (by omega)), ?_, fun i hi => ?_, h6.fr (k0 1 (by omega) (by omega) (by omega)) (fun k hk => k0 _ (by omega) (by omega) (by omega)) (k0 203 (by omega) (by omega) (by omega)) (k0 204 (by omega) (by omega) (by omega)), h7.fr (k0 10 (by omega) (by omega) (by omega)) (fun k hk => k0 _ (by omega) (by omega) (by omega)) (k0 206 (by omega) (by omega) (by omega)) (k0 207 (by omega) (by omega) (by omega))⟩, ⟨?_, fun f q1 q2 => ?_⟩, ?_⟩
  · refine h4.fr h2.1 ⟨?_, ⟨fun x _ => ?_, fun x _ => ?_⟩, k0 211 (by omega) (by omega) (by omega), k0 212 (by omega) (by omega) (by omega), k0 213 (by omega) (by omega) (by omega), k0 225 (by omega) (by omega) (by omega), k0 226 (by omega) (by omega) (by omega)⟩
    · rw [k0 200 (by omega) (by omega) (by omega)]; exact ⟨rfl, rfl, rfl, rfl⟩
    · rw [k0 210 (by omega) (by omega) (by omega)]
    · rw [k0 214 (by omega) (by omega) (by omega)]
  · rw [h101]
    by_cases hij : i = j
    · subst hij
      exact Or.inr ⟨by simp [upd], hzj, R, h2, LK.rf _, hC, hK⟩
    · rw [show upd (v.1 101) j 1 i = v.1 101 i by simp [upd, hij], h227 (920 * i) (by omega), hzo i hi hij]
      rcases h5 i hi with q | ⟨q1, q2, R', q4, q5, q6, q7⟩
      · exact Or.inl q
      · exact Or.inr ⟨q1, q2, R', q4, q5, q6.fr (fun k hk => hr _ (by omega) (by omega) (by omega)), q7.at q4.1 q4.2.2.1 (fun q w1 w2 => h227 q (by omega))⟩
  · rw [k0 0 (by omega) (by omega) (by omega), k0 200 (by omega) (by omega) (by omega)]; exact f1
  · rw [k0 102 (by omega) (by omega) (by omega), k0 201 (by omega) (by omega) (by omega)]; exact f2 f q1 q2
  · rw [k0 0 (by omega) (by omega) (by omega), k0 200 (by omega) (by omega) (by omega)]; exact g
/-- the cells behind a keep that made a land -/
theorem ZL.done {z1 : xZ} {j : Nat} (h : ZL z z1 j) (hj : j < 3) (Z : ZZ z) (hk : Zk z) : ZZ (wR z1 100 j (some (40 + 10 * j))) ∧ Zk (wR z1 100 j (some (40 + 10 * j))) := by
  have B1 := h.base hj Z.1
  have ho : ∀ i, i ≠ j → (wR z1 100 j (some (40 + 10 * j))).2 100 i = z.2 100 i := fun i hi => by rw [wR_other hi, h.2.1 100 (by omega)]
  refine ⟨⟨⟨B1.1, fun a ha h1 k b hb => by rw [wR_ne h1]; exact B1.2 a ha h1 k b hb⟩, wR_Zc h.2.2.2 h.2.2.1.1.1, fun a ha => ?_, fun i hi hn k hk9 ha => ?_⟩, fun i hi => ?_⟩
  · rcases (h.1 a).mp ha with q | q
    · exact Z.2.2.1 a q
    · omega
  · by_cases hij : i = j
    · subst hij
      rw [wR_at] at hn
      exact absurd hn (by simp)
    · rw [ho i hij] at hn
      rcases (h.1 _).mp ha with q | q
      · exact Z.2.2.2 i hi hn k hk9 q
      · omega
  · by_cases hij : i = j
    · subst hij
      exact Or.inr ⟨wR_at, h.2.2.1.1, fun k q1 q2 => ⟨by rw [wR_ne (by omega)]; exact (h.2.2.1.2 k q1 q2).1, (h.2.2.1.2 k q1 q2).2⟩⟩
    · rw [ho i hij]
      rcases hk i hi with q | ⟨q1, q2, q3⟩
      · exact Or.inl q
      · refine Or.inr ⟨q1, ⟨(h.1 _).mpr (Or.inl q2.1), q2.2⟩, fun k w1 w2 => ⟨?_, (h.1 _).mpr (Or.inl (q3 k w1 w2).2.1), (q3 k w1 w2).2.2⟩⟩
        rw [wR_ne (by omega), h.2.1 _ (by omega)]
        exact (q3 k w1 w2).1
theorem pr_keep (Z : ZZ z) (h : InvR z v R) {x : Int32} : Ok G (d + 16) 9 874 yX5_keep cX5_keep 3 (some .int) [.ref 0, .int x] z v (fun r z1 v1 => ∃ i, r = some (.int i) ∧ ZZ z1 ∧ oX6_keep G (d + 16) [.ref 200, .int x] z1 v1 (fun r' v2 => Pr z1 i r' v2)) := by
  have B := Z.1
  have I := h.1
  have mbad : ¬ inR x 3 → oX6_keep G (d + 16) [.ref 200, .int x] z v (fun r' v2 => Pr z (-1) r' v2) := fun hx =>
    vc_X6_keep B (om_in B (fun a b => absurd ⟨by rw [i32_0] at a; omega, by rw [i32_2] at b; omega⟩ hx) (fun _ => nb0 (Pr.mk rfl h)))
  refine Ok_of (own := RX5) (by decide) rfl (Nat.le_of_ble_eq_true rfl) ?_
  show AW G (d + 16) 9 874 yX5_keep cX5_keep 3 (some .int) RX5 0 0 0 [some (.ref 0), some (.int x), none] [] z v _
  refine AW_iload_n dX5_keep_0 rfl rfl ?_
  refine AW_if_lt (tgt := 9) dX5_keep_1 (by decide) (fun c => ?_) (fun c => ?_)
  · refine AW_iconst (x := (-1)) dX5_keep_9 (by decide) ?_
    exact AW_iret dX5_keep_10 rfl rfl (by decide) (by decide) ⟨-1, rfl, Z, mbad (by rw [i32lt, i32_0] at c; intro w; have := w.1; omega)⟩
  refine AW_iload_n dX5_keep_4 rfl rfl ?_
  refine AW_iconst (x := 3) dX5_keep_5 (by decide) ?_
  refine AW_icmp_lt (tgt := 11) dX5_keep_6 (by decide) (fun c2 => ?_) (fun c2 => ?_)
  case refine_2 =>
    refine AW_iconst (x := (-1)) dX5_keep_9 (by decide) ?_
    exact AW_iret dX5_keep_10 rfl rfl (by decide) (by decide) ⟨-1, rfl, Z, mbad (by rw [i32lt, i32_3] at c2; intro w; have := w.2; omega)⟩
  rw [i32lt, i32_0] at c
  rw [i32lt, i32_3] at c2
  obtain ⟨j, ej, ej2, _⟩ := i32nat (x := x) (by omega)
  subst ej
  have hj : j < 3 := by omega
  refine AW_aload_n dX5_keep_11 rfl rfl ?_
  refine AW_getR dX5_keep_12 (bI_0 B) fl_X5_31 (bR_0_3 B) ?_
  refine AW_getI dX5_keep_15 (bI_30 B) fl_X5_127 ?_
  have hn := I.D.1
  rw [I.LC.1]
  refine AW_if_ne (tgt := 24) dX5_keep_18 (by decide) (fun c3 => ?_) (fun c3 => ?_)
  case refine_2 =>
    refine AW_bipush (x := (-4)) dX5_keep_21 (by decide) ?_
    refine AW_iret dX5_keep_23 rfl rfl (by decide) (by decide) ⟨-4, rfl, Z, ?_⟩
    exact vc_X6_keep B (om_in B (fun _ _ => nb1 (nf (by rw [I.LM.1]; exact c3) (Pr.mk rfl h))) (fun a => absurd ⟨by rw [i32_0, nIi (by omega)]; omega, by rw [i32_2, nIi (by omega)]; omega⟩ a))
  have h0 : dn (rD R) ≠ 0 := fun q => c3 ((congrArg nI q).trans nI_0)
  -- behind the class
  have fin : ∀ (z1 : xZ) (v1 v2 : xS), ZZ z1 → Zk z1 → (∀ i, i < 3 → i ≠ j → z1.2 100 i = z.2 100 i) → z1.2 100 j = some (40 + 10 * j) → (∀ a, (a < 40 + 10 * j ∨ 49 + 10 * j ≤ a) → v1.1 a = v.1 a) → (∀ a, (a < 40 + 10 * j ∨ 49 + 10 * j ≤ a) → a ≠ 101 → v2.1 a = v1.1 a) → v2.1 101 = upd (v1.1 101) j 1 → CR v2 (40 + 10 * j) R → ∃ i, some (Value.int (nI (re R))) = some (.int i) ∧ ZZ z1 ∧ oX6_keep G (d + 16) [.ref 200, .int (nI j)] z1 v2 (fun r' v2 => Pr z1 i r' v2) := by
    intro z1 v1 v2 Z1 hk1 ho hj1 r1 r2 e101 hC2
    have rr : ∀ a, (a < 40 + 10 * j ∨ 49 + 10 * j ≤ a) → a ≠ 101 → v2.1 a = v.1 a := fun a q1 q2 => by rw [r2 a q1 q2, r1 a q1]
    refine ⟨_, rfl, Z1, om_keep Z1.1 hj I.D I.2.1.2.2.1 (I.2.2.2.1.row I.D (fun a ha => rr a (by omega) (by omega))) h0 (fun v3 g1 g2 hK3 => Pr.mk (R := R) rfl ?_)⟩
    refine h.keep hj hk1 ho hj1 (fun a q1 q2 q3 => by rw [g1 a q3, rr a q1 q2]) ?_ (fun q hq => by rw [g2 q hq, rr 227 (by omega) (by omega)]) (hC2.fr (fun k hk => g1 _ (by omega))) hK3
    rw [g1 101 (by decide), e101, r1 101 (by omega)]
  refine AW_aload_n dX5_keep_24 rfl rfl ?_
  refine AW_getR dX5_keep_25 (bI_0 B) fl_X5_51 (bR_0_6 B) ?_
  refine AW_iload_n dX5_keep_28 rfl rfl ?_
  have hz := I.1 j hj
  rcases hb : z.2 100 j with _ | b
  · refine AW_aald dX5_keep_29 (bI_100 B) (Or.inl rfl) (vpN hj (by omega)) (w := .null) (by rw [clN (by omega), hb]; rfl) ?_
    refine AW_astoreN (L' := [some (.ref 0), some (.int (nI j)), some .null]) dX5_keep_30 rfl (by decide) rfl ?_
    refine AW_aloadN dX5_keep_31 rfl rfl ?_
    refine AW_ifnonnullN dX5_keep_32 ?_
    refine kp_35 B hj Z.2.1 (Z.2.2.2 j hj hb) (fun z1 v1 hZL hv => ?_)
    obtain ⟨Z1, hk1⟩ := hZL.done hj Z I.1
    have hl1 : xLandAt (wR z1 100 j (some (40 + 10 * j))) (40 + 10 * j) := by
      rcases hk1 j hj with q | q
      · rw [wR_at] at q; exact absurd q (by simp)
      · exact q.2
    exact kp_50 Z1.1 hj hl1 I.2.1 (I.2.2.1.fr (fun k hk => hv _ (by omega))) (by decide) (by decide) (fun v2 g1 g2 g3 => fin _ v1 v2 Z1 hk1 (fun i _ hi => by rw [wR_other hi, hZL.2.1 100 (by omega)]) wR_at hv g1 g2 g3)
  · have eb : b = 40 + 10 * j ∧ xLandAt z (40 + 10 * j) := by
      rcases hz with q | q
      · rw [hb] at q; exact absurd q (by simp)
      · rw [hb] at q
        exact ⟨Option.some.inj q.1, q.2⟩
    obtain ⟨eb, hl⟩ := eb
    subst eb
    refine AW_aald dX5_keep_29 (bI_100 B) (Or.inl rfl) (vpN hj (by omega)) (w := .ref (40 + 10 * j)) (by rw [clN (by omega), hb]; rfl) ?_
    refine AW_astore_n (L' := [some (.ref 0), some (.int (nI j)), some (.ref (40 + 10 * j))]) dX5_keep_30 rfl (by decide) rfl ?_
    refine AW_aload_n dX5_keep_31 rfl rfl ?_
    refine AW_ifnonnull (tgt := 50) dX5_keep_32 (by decide) ?_
    exact kp_50 B hj hl I.2.1 I.2.2.1 (by decide) (by decide) (fun v2 g1 g2 g3 => fin z v v2 Z I.1 (fun i _ _ => rfl) hb (fun a _ => rfl) g1 g2 g3)
end PKEEP
