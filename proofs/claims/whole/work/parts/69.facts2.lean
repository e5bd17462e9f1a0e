/-! facts of the tables for what is made, by program -/
theorem cl_L_7 : Cond.classLink "MovingHillsLaw" 7 "MovingHills" ∈ xgt := (xgt_at 86 (by decide +kernel) (by decide +kernel))
theorem cl_X5_7 : Cond.classLink RX5 7 "MovingHills$Shelf" ∈ xgt := (xgt_at 94 (by decide +kernel) (by decide +kernel))
theorem cl_X4_15 : Cond.classLink RX4 15 ("[" ++ (FieldType.array .int).toString) ∈ xgt := (xgt_at 100 (by decide +kernel) (by decide +kernel))
theorem cl_X5_21 : Cond.classLink RX5 21 "MovingHills$Reading" ∈ xgt := (xgt_at 114 (by decide +kernel) (by decide +kernel))
theorem cl_X5_28 : Cond.classLink RX5 28 "MovingHills$Land" ∈ xgt := (xgt_at 145 (by decide +kernel) (by decide +kernel))
theorem cl_X5_35 : Cond.classLink RX5 35 "MovingHills$Aside" ∈ xgt := (xgt_at 201 (by decide +kernel) (by decide +kernel))
theorem cl_X0_18 : Cond.classLink RX0 18 ("[" ++ (FieldType.array .int).toString) ∈ xgt := (xgt_at 207 (by decide +kernel) (by decide +kernel))
theorem cl_X5_44 : Cond.classLink RX5 44 "MovingHills$Plan" ∈ xgt := (xgt_at 236 (by decide +kernel) (by decide +kernel))
theorem cl_X2_9 : Cond.classLink RX2 9 ("[" ++ (FieldType.array .int).toString) ∈ xgt := (xgt_at 242 (by decide +kernel) (by decide +kernel))
theorem cl_L_10 : Cond.classLink "MovingHillsLaw" 10 "MovingHillsModel" ∈ xgt := (xgt_at 880 (by decide +kernel) (by decide +kernel))
theorem in_X0 : Cond.instantiable RX0 8 ∈ xgt := (xgt_at 202 (by decide +kernel) (by decide +kernel))
theorem iz_X0 : Cond.initialized RX0 ∈ xgt := (xgt_at 80 (by decide +kernel) (by decide +kernel))
theorem ii_X0 : yX0_init.name = "<init>" ∧ Cond.instanceMethod yX0_init ∈ xgt := ⟨rfl, (xgt_at 204 (by decide +kernel) (by decide +kernel))⟩
theorem in_X1 : Cond.instantiable RX1 12 ∈ xgt := (xgt_at 146 (by decide +kernel) (by decide +kernel))
theorem iz_X1 : Cond.initialized RX1 ∈ xgt := (xgt_at 79 (by decide +kernel) (by decide +kernel))
theorem ii_X1 : yX1_init.name = "<init>" ∧ Cond.instanceMethod yX1_init ∈ xgt := ⟨rfl, (xgt_at 148 (by decide +kernel) (by decide +kernel))⟩
theorem in_X2 : Cond.instantiable RX2 12 ∈ xgt := (xgt_at 237 (by decide +kernel) (by decide +kernel))
theorem iz_X2 : Cond.initialized RX2 ∈ xgt := (xgt_at 81 (by decide +kernel) (by decide +kernel))
theorem ii_X2 : yX2_init.name = "<init>" ∧ Cond.instanceMethod yX2_init ∈ xgt := ⟨rfl, (xgt_at 239 (by decide +kernel) (by decide +kernel))⟩
theorem in_X3 : Cond.instantiable RX3 6 ∈ xgt := (xgt_at 115 (by decide +kernel) (by decide +kernel))
theorem iz_X3 : Cond.initialized RX3 ∈ xgt := (xgt_at 78 (by decide +kernel) (by decide +kernel))
theorem ii_X3 : yX3_init.name = "<init>" ∧ Cond.instanceMethod yX3_init ∈ xgt := ⟨rfl, (xgt_at 117 (by decide +kernel) (by decide +kernel))⟩
theorem in_X4 : Cond.instantiable RX4 3 ∈ xgt := (xgt_at 95 (by decide +kernel) (by decide +kernel))
theorem iz_X4 : Cond.initialized RX4 ∈ xgt := (xgt_at 77 (by decide +kernel) (by decide +kernel))
theorem ii_X4 : yX4_init.name = "<init>" ∧ Cond.instanceMethod yX4_init ∈ xgt := ⟨rfl, (xgt_at 97 (by decide +kernel) (by decide +kernel))⟩
theorem in_X5 : Cond.instantiable RX5 11 ∈ xgt := (xgt_at 87 (by decide +kernel) (by decide +kernel))
theorem iz_X5 : Cond.initialized RX5 ∈ xgt := (xgt_at 76 (by decide +kernel) (by decide +kernel))
theorem ii_X5 : yX5_init.name = "<init>" ∧ Cond.instanceMethod yX5_init ∈ xgt := ⟨rfl, (xgt_at 89 (by decide +kernel) (by decide +kernel))⟩
theorem in_X6 : Cond.instantiable RX6 42 ∈ xgt := (xgt_at 881 (by decide +kernel) (by decide +kernel))
theorem iz_X6 : Cond.initialized RX6 ∈ xgt := (xgt_at 82 (by decide +kernel) (by decide +kernel))
theorem ii_X6 : yX6_init.name = "<init>" ∧ Cond.instanceMethod yX6_init ∈ xgt := ⟨rfl, (xgt_at 883 (by decide +kernel) (by decide +kernel))⟩
theorem w_oi : Cond.instanceMethod Lib.objectInit ∈ xgt := (xgt_at 92 (by decide +kernel) (by decide +kernel))
theorem w_oc : Cond.code Lib.objectInit ⟨#[0xb1]⟩ 1 none ∈ xgt := xgt_at 93 (by decide +kernel) (by decide +kernel)
theorem w_ai : Cond.arrayClass .int ∈ xgt := xgt_at 113 (by decide +kernel) (by decide +kernel)
theorem w_az : Cond.arrayClass .boolean ∈ xgt := xgt_at 317 (by decide +kernel) (by decide +kernel)
theorem mem_nz {z : xZ} {a b : Nat} : b ∈ (nz z a).1 ↔ b ∈ z.1 ∨ b = a := by unfold nz; simp
theorem mem_wR {z : xZ} {a k b : Nat} {x : Option Nat} : b ∈ (wR z a k x).1 ↔ b ∈ z.1 := Iff.rfl
def liveB (z : xZ) (L : List (Option Value)) (st : List Value) : Bool := st.all (fun w => match w with | .ref x => decide (x ∈ z.1) | _ => true) && L.all (fun o => match o with | some (.ref x) => decide (x ∈ z.1) | _ => true)
theorem live_of {z : xZ} {L : List (Option Value)} {st : List Value} (h : liveB z L st = true) : live z L st := by
  unfold liveB at h
  rw [Bool.and_eq_true, List.all_eq_true, List.all_eq_true] at h
  exact ⟨fun x hx => by simpa using h.1 _ hx, fun x hx => by simpa using h.2 _ hx⟩
section AWCI
variable {G : xG} {d mc ms : Nat} {y : MethodName} {cc : ByteArray} {nL : Nat} {ret : Option FieldType} {own : String} {kc kn pc : Nat} {L : List (Option Value)} {st st0 : List Value} {z : xZ} {v : xS} {Q : Option Value → xZ → xS → Prop}
theorem AW_cI {d' mc' ms' idx a : Nat} {y' : MethodName} {cc' : ByteArray} {nL' : Nat} {as : List Value} {Z1 : xZ} {V1 : xS} (hd : decode cc pc = .ok (.invokespecial idx, 3)) (hm : xmv y' cc' nL' none as.length) (hi : y'.name = "<init>" ∧ Cond.instanceMethod y' ∈ xgt) (hlk : Cond.methodLink own idx y' ∈ xgt) (hdd : d' < d) (hst : (st.map fun w => w.category).sum ≤ 8) (h0 : as.reverse ++ .ref a :: st = st0) (h1 : kc + mc' ≤ mc) (h2 : kn + ms' ≤ ms) (hlv : live z L st)
    (hok : Ok G d' mc' ms' y' cc' nL' none (.ref a :: as) z v (fun r z1 v1 => r = none ∧ z1 = Z1 ∧ v1 = V1)) (kk : AW G d mc ms y cc nL ret own (kc + mc') (kn + ms') (pc + 3) L st Z1 V1 Q) : AW G d mc ms y cc nL ret own kc kn pc L st0 z v Q := by
  subst h0
  exact AW_callI hd hm hi hlk hdd hst h1 h2 hlv (Q' := fun z1 v1 => z1 = Z1 ∧ v1 = V1) hok (fun z1 v1 h => by rw [h.1, h.2]; exact kk)
theorem AW_cIN {d' mc' ms' idx a : Nat} {host : String} {y' : MethodName} {cc' : ByteArray} {nL' : Nat} {as : List Value} {Z1 : xZ} {V1 : xS} (hd : decode cc pc = .ok (.invokespecial idx, 3)) (hm : xmv y' cc' nL' none as.length) (hi : y'.name = "<init>" ∧ Cond.instanceMethod y' ∈ xgt) (hlk : Cond.methodLinkNest own idx y' host ∈ xNest) (hdd : d' < d) (hst : (st.map fun w => w.category).sum ≤ 8) (h0 : as.reverse ++ .ref a :: st = st0) (h1 : kc + mc' ≤ mc) (h2 : kn + ms' ≤ ms) (hlv : live z L st)
    (hok : Ok G d' mc' ms' y' cc' nL' none (.ref a :: as) z v (fun r z1 v1 => r = none ∧ z1 = Z1 ∧ v1 = V1)) (kk : AW G d mc ms y cc nL ret own (kc + mc') (kn + ms') (pc + 3) L st Z1 V1 Q) : AW G d mc ms y cc nL ret own kc kn pc L st0 z v Q := by
  subst h0
  exact AW_callIN hd hm hi hlk hdd hst h1 h2 hlv (Q' := fun z1 v1 => z1 = Z1 ∧ v1 = V1) hok (fun z1 v1 h => by rw [h.1, h.2]; exact kk)
end AWCI
