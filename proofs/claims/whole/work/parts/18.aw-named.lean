/-! rows that name the contents behind a write; small helpers of the printed conditions -/
def xbl (x : Int32) : Prop := narrow .boolean (.int x) = .int x
theorem xbl_0 : xbl 0 := by unfold xbl; decide
theorem xbl_1 : xbl 1 := by unfold xbl; decide
theorem xbl_of {x : Int32} (h : x = 0 ∨ x = 1) : xbl x := by
  rcases h with rfl | rfl
  · exact xbl_0
  · exact xbl_1
section AWN
variable {G : xG} {d mc ms : Nat} {y : MethodName} {cc : ByteArray} {nL : Nat} {ret : Option FieldType} {own : String} {kc kn pc : Nat} {L : List (Option Value)} {st : List Value} {z : xZ} {v : xS} {Q : Option Value → xZ → xS → Prop}
theorem AW_putIN {idx a c k : Nat} {x : Int32} (hd : decode cc pc = .ok (.putfield idx, 3)) (ha : xin z a c (xcN c)) (hf : xfl own idx c k 0) (hfin : (xct c k).2.2.2 = false) (hn : narrow (xcy c k) (.int x) = .int x) (hfit : fits (xcy c k) (.int x) = true)
    (kk : ∀ v1 : xS, v1 = wV v a k x → AW G d mc ms y cc nL ret own kc kn (pc + 3) L st z v1 Q) : AW G d mc ms y cc nL ret own kc kn pc L (.int x :: .ref a :: st) z v Q := AW_putI hd ha hf hfin hn hfit (kk _ rfl)
theorem AW_putLN {idx a c k : Nat} {x : Int64} (hd : decode cc pc = .ok (.putfield idx, 3)) (ha : xin z a c (xcN c)) (hf : xfl own idx c k 2) (hfin : (xct c k).2.2.2 = false) (hn : narrow (xcy c k) (.long x) = .long x) (hfit : fits (xcy c k) (.long x) = true)
    (kk : ∀ v1 : xS, v1 = wL v a k x → AW G d mc ms y cc nL ret own kc kn (pc + 3) L st z v1 Q) : AW G d mc ms y cc nL ret own kc kn pc L (.long x :: .ref a :: st) z v Q := AW_putL hd ha hf hfin hn hfit (kk _ rfl)
theorem AW_iastN {a n : Nat} {i x : Int32} (hd : decode cc pc = .ok (.iastore, 1)) (ha : xin z a 10 n) (hi : vp_in i n) (kk : ∀ v1 : xS, v1 = wV v a i.toNatClampNeg x → AW G d mc ms y cc nL ret own kc kn (pc + 1) L st z v1 Q) : AW G d mc ms y cc nL ret own kc kn pc L (.int x :: .int i :: .ref a :: st) z v Q := AW_iast hd ha hi (kk _ rfl)
theorem AW_zastN {a n : Nat} {i x : Int32} (hd : decode cc pc = .ok (.bastore, 1)) (ha : xin z a 13 n) (hi : vp_in i n) (hx : vp_nar .boolean x = x) (kk : ∀ v1 : xS, v1 = wV v a i.toNatClampNeg x → AW G d mc ms y cc nL ret own kc kn (pc + 1) L st z v1 Q) : AW G d mc ms y cc nL ret own kc kn pc L (.int x :: .int i :: .ref a :: st) z v Q := AW_zast hd ha hi hx (kk _ rfl)
theorem AW_copyN {idx a0 a1 n0 n1 : Nat} {sp dp n : Int32} (hd : decode cc pc = .ok (.invokestatic idx, 3)) (hlk : Cond.methodLink own idx arraycopyName ∈ xgt) (ha0 : xin z a0 10 n0) (ha1 : xin z a1 10 n1) (h1 : ¬ sp < 0) (h2 : ¬ dp < 0) (h3 : ¬ n < 0) (h4 : sp.toNatClampNeg + n.toNatClampNeg ≤ n0) (h5 : dp.toNatClampNeg + n.toNatClampNeg ≤ n1) (hdd : 0 < d) (hst : (st.map fun w => w.category).sum ≤ 8)
    (kk : ∀ v1 : xS, v1 = wA v a1 (va_cpy (v.1 a0) (v.1 a1) sp.toNatClampNeg dp.toNatClampNeg n.toNatClampNeg) → AW G d mc ms y cc nL ret own kc kn (pc + 3) L st z v1 Q) : AW G d mc ms y cc nL ret own kc kn pc L (.int n :: .int dp :: .ref a1 :: .int sp :: .ref a0 :: st) z v Q := AW_copy hd hlk w_copy ha0 ha1 h1 h2 h3 h4 h5 hdd hst (kk _ rfl)
theorem AW_aloadN {j : Fin 4} {i : Nat} (hd : decode cc pc = .ok (.aload_n j, 1)) (hi : (j : Nat) = i) (hL : L[i]? = some (some .null)) (k : AW G d mc ms y cc nL ret own kc kn (pc + 1) L (.null :: st) z v Q) : AW G d mc ms y cc nL ret own kc kn pc L st z v Q := by
  intro z0 v0 ρ0 sz p e s m args below meth c C ρ H locs ls g hP hD hS hl
  exact lv_aload_nN C.1 C.2.1 hd hi (hl.at hL) (k z0 v0 ρ0 sz p e s m args below meth c C ρ H locs ls g hP hD hS hl)
theorem AW_astoreN {j : Fin 4} {i : Nat} {L' : List (Option Value)} (hd : decode cc pc = .ok (.astore_n j, 1)) (hi : (j : Nat) = i) (hn : i < nL) (hL : xs1 L i .null = L') (k : AW G d mc ms y cc nL ret own kc kn (pc + 1) L' st z v Q) : AW G d mc ms y cc nL ret own kc kn pc L (.null :: st) z v Q := by
  intro z0 v0 ρ0 sz p e s m args below meth c C ρ H locs ls g hP hD hS hl
  subst hL
  exact lv_astore_nN C.1 C.2.1 hd hi hl hn rfl (fun ls' hl' => (k z0 v0 ρ0 sz p e s m args below meth c C ρ H locs ls' g hP hD hS (xLH.of1 (v := .null) hl')))
end AWN
/-- a land's cells at a, with the references of its fields -/
def xLandAt (z : xZ) (a : Nat) : Prop := xin z a 1 12 ∧ ∀ k, 4 ≤ k → k < 12 → z.2 a k = some (a + (k - 3)) ∧ xin z (a + (k - 3)) 10 (if k = 4 then 10 else if k < 9 then 3 else if k = 9 then 60 else if k = 10 then 600 else 180)
/-- a shelf's cells at a: p rows of m places -/
def xShelf (z : xZ) (a p m : Nat) : Prop := xin z a 4 3 ∧ z.2 a 1 = some (a + 1) ∧ z.2 a 2 = some (a + 2) ∧ xin z (a + 1) 12 p ∧ xin z (a + 2) 10 p ∧ ∀ r, r < p → z.2 (a + 1) r = some (a + 3 + r) ∧ xin z (a + 3 + r) 10 m
theorem vp_lt {i : Int32} {n : Nat} (h : vp_in i n) : i.toNatClampNeg < n := Nat.not_le.mp fun q => h (Or.inr q)
theorem xBase_aa {z : xZ} (B : Base z) {a t n b m : Nat} (ha : a ∈ xBase) (h100 : a ≠ 100) (hk : ∀ k, k < n → RF a k = some (b + k) ∧ b + k ∈ xBase ∧ SH (b + k) = (t, m)) : ∀ k, k < n → z.2 a k = some (b + k) ∧ xin z (b + k) t m := fun k h => ⟨B.2 a ha h100 k _ (hk k h).1, B.i (hk k h).2.1 (hk k h).2.2⟩
theorem bA_2 {z : xZ} (B : Base z) : ∀ k, k < 6 → z.2 2 k = some (4 + k) ∧ xin z (4 + k) 10 40 := xBase_aa B (by decide +kernel) (by decide) (by decide +kernel)
theorem bA_11 {z : xZ} (B : Base z) : ∀ k, k < 4 → z.2 11 k = some (13 + k) ∧ xin z (13 + k) 10 80 := xBase_aa B (by decide +kernel) (by decide) (by decide +kernel)
theorem bA_73 {z : xZ} (B : Base z) : ∀ k, k < 7 → z.2 73 k = some (74 + k) ∧ xin z (74 + k) 10 10 := xBase_aa B (by decide +kernel) (by decide) (by decide +kernel)
theorem bA_91 {z : xZ} (B : Base z) : ∀ k, k < 4 → z.2 91 k = some (92 + k) ∧ xin z (92 + k) 10 10 := xBase_aa B (by decide +kernel) (by decide) (by decide +kernel)
theorem bS_1 {z : xZ} (B : Base z) : xShelf z 1 6 40 := ⟨bI_1 B, bR_1_1 B, bR_1_2 B, bI_2 B, bI_3 B, bA_2 B⟩
theorem bS_10 {z : xZ} (B : Base z) : xShelf z 10 4 80 := ⟨bI_10 B, bR_10_1 B, bR_10_2 B, bI_11 B, bI_12 B, bA_11 B⟩
theorem bL_30 {z : xZ} (B : Base z) : xLandAt z 30 := by
  refine ⟨bI_30 B, fun k h1 h2 => ?_⟩
  match k, h1, h2 with
  | 4, _, _ => exact ⟨bR_30_4 B, bI_31 B⟩
  | 5, _, _ => exact ⟨bR_30_5 B, bI_32 B⟩
  | 6, _, _ => exact ⟨bR_30_6 B, bI_33 B⟩
  | 7, _, _ => exact ⟨bR_30_7 B, bI_34 B⟩
  | 8, _, _ => exact ⟨bR_30_8 B, bI_35 B⟩
  | 9, _, _ => exact ⟨bR_30_9 B, bI_36 B⟩
  | 10, _, _ => exact ⟨bR_30_10 B, bI_37 B⟩
  | 11, _, _ => exact ⟨bR_30_11 B, bI_38 B⟩
theorem xsw_of {x : Int32} (k : Nat) (hk : k < 2 ^ 31) (h : x.toInt = k) : x = Int32.ofNat k := by
  apply Int32.toInt_inj.mp
  rw [h]
  exact (nI_toInt hk).symm
theorem xsw_0_3 {x : Int32} (h : ¬ (x.toInt < 0 ∨ 3 < x.toInt)) : x = 0 ∨ x = 1 ∨ x = 2 ∨ x = 3 := by
  have h2 : x.toInt = 0 ∨ x.toInt = 1 ∨ x.toInt = 2 ∨ x.toInt = 3 := by omega
  rcases h2 with h2 | h2 | h2 | h2
  · exact Or.inl (xsw_of 0 (by decide) h2)
  · exact Or.inr (Or.inl (xsw_of 1 (by decide) h2))
  · exact Or.inr (Or.inr (Or.inl (xsw_of 2 (by decide) h2)))
  · exact Or.inr (Or.inr (Or.inr (xsw_of 3 (by decide) h2)))
theorem xsw_0_4 {x : Int32} (h : ¬ (x.toInt < 0 ∨ 4 < x.toInt)) : x = 0 ∨ x = 1 ∨ x = 2 ∨ x = 3 ∨ x = 4 := by
  have h2 : x.toInt = 0 ∨ x.toInt = 1 ∨ x.toInt = 2 ∨ x.toInt = 3 ∨ x.toInt = 4 := by omega
  rcases h2 with h2 | h2 | h2 | h2 | h2
  · exact Or.inl (xsw_of 0 (by decide) h2)
  · exact Or.inr (Or.inl (xsw_of 1 (by decide) h2))
  · exact Or.inr (Or.inr (Or.inl (xsw_of 2 (by decide) h2)))
  · exact Or.inr (Or.inr (Or.inr (Or.inl (xsw_of 3 (by decide) h2))))
  · exact Or.inr (Or.inr (Or.inr (Or.inr (xsw_of 4 (by decide) h2))))
theorem xsw_0_8 {x : Int32} (h : ¬ (x.toInt < 0 ∨ 8 < x.toInt)) : x = 0 ∨ x = 1 ∨ x = 2 ∨ x = 3 ∨ x = 4 ∨ x = 5 ∨ x = 6 ∨ x = 7 ∨ x = 8 := by
  have h2 : x.toInt = 0 ∨ x.toInt = 1 ∨ x.toInt = 2 ∨ x.toInt = 3 ∨ x.toInt = 4 ∨ x.toInt = 5 ∨ x.toInt = 6 ∨ x.toInt = 7 ∨ x.toInt = 8 := by omega
  rcases h2 with h2 | h2 | h2 | h2 | h2 | h2 | h2 | h2 | h2
  · exact Or.inl (xsw_of 0 (by decide) h2)
  · exact Or.inr (Or.inl (xsw_of 1 (by decide) h2))
  · exact Or.inr (Or.inr (Or.inl (xsw_of 2 (by decide) h2)))
  · exact Or.inr (Or.inr (Or.inr (Or.inl (xsw_of 3 (by decide) h2))))
  · exact Or.inr (Or.inr (Or.inr (Or.inr (Or.inl (xsw_of 4 (by decide) h2)))))
  · exact Or.inr (Or.inr (Or.inr (Or.inr (Or.inr (Or.inl (xsw_of 5 (by decide) h2))))))
  · exact Or.inr (Or.inr (Or.inr (Or.inr (Or.inr (Or.inr (Or.inl (xsw_of 6 (by decide) h2)))))))
  · exact Or.inr (Or.inr (Or.inr (Or.inr (Or.inr (Or.inr (Or.inr (Or.inl (xsw_of 7 (by decide) h2))))))))
  · exact Or.inr (Or.inr (Or.inr (Or.inr (Or.inr (Or.inr (Or.inr (Or.inr (xsw_of 8 (by decide) h2))))))))
theorem xsw_1_4 {x : Int32} (h : ¬ (x.toInt < 1 ∨ 4 < x.toInt)) : x = 1 ∨ x = 2 ∨ x = 3 ∨ x = 4 := by
  have h2 : x.toInt = 1 ∨ x.toInt = 2 ∨ x.toInt = 3 ∨ x.toInt = 4 := by omega
  rcases h2 with h2 | h2 | h2 | h2
  · exact Or.inl (xsw_of 1 (by decide) h2)
  · exact Or.inr (Or.inl (xsw_of 2 (by decide) h2))
  · exact Or.inr (Or.inr (Or.inl (xsw_of 3 (by decide) h2)))
  · exact Or.inr (Or.inr (Or.inr (xsw_of 4 (by decide) h2)))
