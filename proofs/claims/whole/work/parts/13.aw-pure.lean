/-! the abstract machine: one row an instruction (pure ones) -/
section AWR
variable {G : xG} {d mc ms : Nat} {y : MethodName} {cc : ByteArray} {nL : Nat} {ret : Option FieldType} {own : String} {kc kn pc : Nat} {L : List (Option Value)} {st : List Value} {z : xZ} {v : xS} {Q : Option Value → xZ → xS → Prop}
theorem AW_iconst {n : Int} {x : Int32} (hd : decode cc pc = .ok (.iconst n, 1)) (hv : Int32.ofInt n = x) (k : AW G d mc ms y cc nL ret own kc kn (pc + 1) L (.int x :: st) z v Q) : AW G d mc ms y cc nL ret own kc kn pc L st z v Q := by
  intro z0 v0 ρ0 sz p e s m args below meth c C ρ H locs ls g hP hD hS hl
  exact lv_iconst C.1 C.2.1 hd hv (k z0 v0 ρ0 sz p e s m args below meth c C ρ H locs ls g hP hD hS hl)
theorem AW_bipush {n : Int} {x : Int32} (hd : decode cc pc = .ok (.bipush n, 2)) (hv : (Int8.ofInt n).toInt32 = x) (k : AW G d mc ms y cc nL ret own kc kn (pc + 2) L (.int x :: st) z v Q) : AW G d mc ms y cc nL ret own kc kn pc L st z v Q := by
  intro z0 v0 ρ0 sz p e s m args below meth c C ρ H locs ls g hP hD hS hl
  exact lv_bipush C.1 C.2.1 hd hv (k z0 v0 ρ0 sz p e s m args below meth c C ρ H locs ls g hP hD hS hl)
theorem AW_sipush {n : Int} {x : Int32} (hd : decode cc pc = .ok (.sipush n, 3)) (hv : (Int16.ofInt n).toInt32 = x) (k : AW G d mc ms y cc nL ret own kc kn (pc + 3) L (.int x :: st) z v Q) : AW G d mc ms y cc nL ret own kc kn pc L st z v Q := by
  intro z0 v0 ρ0 sz p e s m args below meth c C ρ H locs ls g hP hD hS hl
  exact lv_sipush C.1 C.2.1 hd hv (k z0 v0 ρ0 sz p e s m args below meth c C ρ H locs ls g hP hD hS hl)
theorem AW_lconst {n : Fin 2} {x : Int64} (hd : decode cc pc = .ok (.lconst n, 1)) (hv : Int64.ofNat (n : Nat) = x) (k : AW G d mc ms y cc nL ret own kc kn (pc + 1) L (.long x :: st) z v Q) : AW G d mc ms y cc nL ret own kc kn pc L st z v Q := by
  intro z0 v0 ρ0 sz p e s m args below meth c C ρ H locs ls g hP hD hS hl
  exact lv_lconst C.1 C.2.1 hd hv (k z0 v0 ρ0 sz p e s m args below meth c C ρ H locs ls g hP hD hS hl)
theorem AW_ldc2 {idx : Nat} {x : Int64} (hd : decode cc pc = .ok (.ldc2_w idx, 3)) (hw : Cond.constantLong own idx x ∈ xgt) (k : AW G d mc ms y cc nL ret own kc kn (pc + 3) L (.long x :: st) z v Q) : AW G d mc ms y cc nL ret own kc kn pc L st z v Q := by
  intro z0 v0 ρ0 sz p e s m args below meth c C ρ H locs ls g hP hD hS hl
  exact lv_ldc2 C.1 C.2.1 C.2.2.2.2.1 (C.2.2.2.2.2.1 _ (List.mem_cons_of_mem _ hw)) hd (k z0 v0 ρ0 sz p e s m args below meth c C ρ H locs ls g hP hD hS hl)
theorem AW_ldcw {idx : Nat} {x : Int32} (hd : decode cc pc = .ok (.ldc_w idx, 3)) (hw : Cond.constant own idx x ∈ xgt) (k : AW G d mc ms y cc nL ret own kc kn (pc + 3) L (.int x :: st) z v Q) : AW G d mc ms y cc nL ret own kc kn pc L st z v Q := by
  intro z0 v0 ρ0 sz p e s m args below meth c C ρ H locs ls g hP hD hS hl
  exact lv_ldcw C.1 C.2.1 C.2.2.2.2.1 (C.2.2.2.2.2.1 _ (List.mem_cons_of_mem _ hw)) hd (k z0 v0 ρ0 sz p e s m args below meth c C ρ H locs ls g hP hD hS hl)
theorem AW_iload_n {j : Fin 4} {i : Nat} {x : Int32} (hd : decode cc pc = .ok (.iload_n j, 1)) (hi : (j : Nat) = i) (hL : L[i]? = some (some (.int x))) (k : AW G d mc ms y cc nL ret own kc kn (pc + 1) L (.int x :: st) z v Q) : AW G d mc ms y cc nL ret own kc kn pc L st z v Q := by
  intro z0 v0 ρ0 sz p e s m args below meth c C ρ H locs ls g hP hD hS hl
  exact lv_iload_n C.1 C.2.1 hd hi (hl.at hL) (k z0 v0 ρ0 sz p e s m args below meth c C ρ H locs ls g hP hD hS hl)
theorem AW_iload {i : Nat} {x : Int32} (hd : decode cc pc = .ok (.iload i, 2)) (hL : L[i]? = some (some (.int x))) (k : AW G d mc ms y cc nL ret own kc kn (pc + 2) L (.int x :: st) z v Q) : AW G d mc ms y cc nL ret own kc kn pc L st z v Q := by
  intro z0 v0 ρ0 sz p e s m args below meth c C ρ H locs ls g hP hD hS hl
  exact lv_iload C.1 C.2.1 hd (hl.at hL) (k z0 v0 ρ0 sz p e s m args below meth c C ρ H locs ls g hP hD hS hl)
theorem AW_lload_n {j : Fin 4} {i : Nat} {x : Int64} (hd : decode cc pc = .ok (.lload_n j, 1)) (hi : (j : Nat) = i) (hL : L[i]? = some (some (.long x))) (k : AW G d mc ms y cc nL ret own kc kn (pc + 1) L (.long x :: st) z v Q) : AW G d mc ms y cc nL ret own kc kn pc L st z v Q := by
  intro z0 v0 ρ0 sz p e s m args below meth c C ρ H locs ls g hP hD hS hl
  exact lv_lload_n C.1 C.2.1 hd hi (hl.at hL) (k z0 v0 ρ0 sz p e s m args below meth c C ρ H locs ls g hP hD hS hl)
theorem AW_lload {i : Nat} {x : Int64} (hd : decode cc pc = .ok (.lload i, 2)) (hL : L[i]? = some (some (.long x))) (k : AW G d mc ms y cc nL ret own kc kn (pc + 2) L (.long x :: st) z v Q) : AW G d mc ms y cc nL ret own kc kn pc L st z v Q := by
  intro z0 v0 ρ0 sz p e s m args below meth c C ρ H locs ls g hP hD hS hl
  exact lv_lload C.1 C.2.1 hd (hl.at hL) (k z0 v0 ρ0 sz p e s m args below meth c C ρ H locs ls g hP hD hS hl)
theorem AW_aload_n {j : Fin 4} {i : Nat} {x : Nat} (hd : decode cc pc = .ok (.aload_n j, 1)) (hi : (j : Nat) = i) (hL : L[i]? = some (some (.ref x))) (k : AW G d mc ms y cc nL ret own kc kn (pc + 1) L (.ref x :: st) z v Q) : AW G d mc ms y cc nL ret own kc kn pc L st z v Q := by
  intro z0 v0 ρ0 sz p e s m args below meth c C ρ H locs ls g hP hD hS hl
  exact lv_aload_n C.1 C.2.1 hd hi (hl.at hL) (k z0 v0 ρ0 sz p e s m args below meth c C ρ H locs ls g hP hD hS hl)
theorem AW_aload {i : Nat} {x : Nat} (hd : decode cc pc = .ok (.aload i, 2)) (hL : L[i]? = some (some (.ref x))) (k : AW G d mc ms y cc nL ret own kc kn (pc + 2) L (.ref x :: st) z v Q) : AW G d mc ms y cc nL ret own kc kn pc L st z v Q := by
  intro z0 v0 ρ0 sz p e s m args below meth c C ρ H locs ls g hP hD hS hl
  exact lv_aload C.1 C.2.1 hd (hl.at hL) (k z0 v0 ρ0 sz p e s m args below meth c C ρ H locs ls g hP hD hS hl)
theorem AW_iadd {a b : Int32} (hd : decode cc pc = .ok (.iadd, 1)) (k : AW G d mc ms y cc nL ret own kc kn (pc + 1) L (.int (a + b) :: st) z v Q) : AW G d mc ms y cc nL ret own kc kn pc L (.int b :: .int a :: st) z v Q := by
  intro z0 v0 ρ0 sz p e s m args below meth c C ρ H locs ls g hP hD hS hl
  exact lv_iadd C.1 C.2.1 hd (k z0 v0 ρ0 sz p e s m args below meth c C ρ H locs ls g hP hD hS hl)
theorem AW_isub {a b : Int32} (hd : decode cc pc = .ok (.isub, 1)) (k : AW G d mc ms y cc nL ret own kc kn (pc + 1) L (.int (a - b) :: st) z v Q) : AW G d mc ms y cc nL ret own kc kn pc L (.int b :: .int a :: st) z v Q := by
  intro z0 v0 ρ0 sz p e s m args below meth c C ρ H locs ls g hP hD hS hl
  exact lv_isub C.1 C.2.1 hd (k z0 v0 ρ0 sz p e s m args below meth c C ρ H locs ls g hP hD hS hl)
theorem AW_imul {a b : Int32} (hd : decode cc pc = .ok (.imul, 1)) (k : AW G d mc ms y cc nL ret own kc kn (pc + 1) L (.int (a * b) :: st) z v Q) : AW G d mc ms y cc nL ret own kc kn pc L (.int b :: .int a :: st) z v Q := by
  intro z0 v0 ρ0 sz p e s m args below meth c C ρ H locs ls g hP hD hS hl
  exact lv_imul C.1 C.2.1 hd (k z0 v0 ρ0 sz p e s m args below meth c C ρ H locs ls g hP hD hS hl)
theorem AW_iand {a b : Int32} (hd : decode cc pc = .ok (.iand, 1)) (k : AW G d mc ms y cc nL ret own kc kn (pc + 1) L (.int (a &&& b) :: st) z v Q) : AW G d mc ms y cc nL ret own kc kn pc L (.int b :: .int a :: st) z v Q := by
  intro z0 v0 ρ0 sz p e s m args below meth c C ρ H locs ls g hP hD hS hl
  exact lv_iand C.1 C.2.1 hd (k z0 v0 ρ0 sz p e s m args below meth c C ρ H locs ls g hP hD hS hl)
theorem AW_ior {a b : Int32} (hd : decode cc pc = .ok (.ior, 1)) (k : AW G d mc ms y cc nL ret own kc kn (pc + 1) L (.int (a ||| b) :: st) z v Q) : AW G d mc ms y cc nL ret own kc kn pc L (.int b :: .int a :: st) z v Q := by
  intro z0 v0 ρ0 sz p e s m args below meth c C ρ H locs ls g hP hD hS hl
  exact lv_ior C.1 C.2.1 hd (k z0 v0 ρ0 sz p e s m args below meth c C ρ H locs ls g hP hD hS hl)
theorem AW_ishl {a b : Int32} (hd : decode cc pc = .ok (.ishl, 1)) (k : AW G d mc ms y cc nL ret own kc kn (pc + 1) L (.int (a <<< (b &&& 31)) :: st) z v Q) : AW G d mc ms y cc nL ret own kc kn pc L (.int b :: .int a :: st) z v Q := by
  intro z0 v0 ρ0 sz p e s m args below meth c C ρ H locs ls g hP hD hS hl
  exact lv_ishl C.1 C.2.1 hd (k z0 v0 ρ0 sz p e s m args below meth c C ρ H locs ls g hP hD hS hl)
theorem AW_ishr {a b : Int32} (hd : decode cc pc = .ok (.ishr, 1)) (k : AW G d mc ms y cc nL ret own kc kn (pc + 1) L (.int (a >>> (b &&& 31)) :: st) z v Q) : AW G d mc ms y cc nL ret own kc kn pc L (.int b :: .int a :: st) z v Q := by
  intro z0 v0 ρ0 sz p e s m args below meth c C ρ H locs ls g hP hD hS hl
  exact lv_ishr C.1 C.2.1 hd (k z0 v0 ρ0 sz p e s m args below meth c C ρ H locs ls g hP hD hS hl)
theorem AW_ladd {a b : Int64} (hd : decode cc pc = .ok (.ladd, 1)) (k : AW G d mc ms y cc nL ret own kc kn (pc + 1) L (.long (a + b) :: st) z v Q) : AW G d mc ms y cc nL ret own kc kn pc L (.long b :: .long a :: st) z v Q := by
  intro z0 v0 ρ0 sz p e s m args below meth c C ρ H locs ls g hP hD hS hl
  exact lv_ladd C.1 C.2.1 hd (k z0 v0 ρ0 sz p e s m args below meth c C ρ H locs ls g hP hD hS hl)
theorem AW_lmul {a b : Int64} (hd : decode cc pc = .ok (.lmul, 1)) (k : AW G d mc ms y cc nL ret own kc kn (pc + 1) L (.long (a * b) :: st) z v Q) : AW G d mc ms y cc nL ret own kc kn pc L (.long b :: .long a :: st) z v Q := by
  intro z0 v0 ρ0 sz p e s m args below meth c C ρ H locs ls g hP hD hS hl
  exact lv_lmul C.1 C.2.1 hd (k z0 v0 ρ0 sz p e s m args below meth c C ρ H locs ls g hP hD hS hl)
theorem AW_idiv {a b : Int32} (hd : decode cc pc = .ok (.idiv, 1)) (h0 : ¬ b = 0) (k : AW G d mc ms y cc nL ret own kc kn (pc + 1) L (.int (a / b) :: st) z v Q) : AW G d mc ms y cc nL ret own kc kn pc L (.int b :: .int a :: st) z v Q := by
  intro z0 v0 ρ0 sz p e s m args below meth c C ρ H locs ls g hP hD hS hl
  exact lv_idiv C.1 C.2.1 hd h0 (k z0 v0 ρ0 sz p e s m args below meth c C ρ H locs ls g hP hD hS hl)
theorem AW_irem {a b : Int32} (hd : decode cc pc = .ok (.irem, 1)) (h0 : ¬ b = 0) (k : AW G d mc ms y cc nL ret own kc kn (pc + 1) L (.int (a - a / b * b) :: st) z v Q) : AW G d mc ms y cc nL ret own kc kn pc L (.int b :: .int a :: st) z v Q := by
  intro z0 v0 ρ0 sz p e s m args below meth c C ρ H locs ls g hP hD hS hl
  exact lv_irem C.1 C.2.1 hd h0 (k z0 v0 ρ0 sz p e s m args below meth c C ρ H locs ls g hP hD hS hl)
theorem AW_ldiv {a b : Int64} (hd : decode cc pc = .ok (.ldiv, 1)) (h0 : ¬ b = 0) (k : AW G d mc ms y cc nL ret own kc kn (pc + 1) L (.long (a / b) :: st) z v Q) : AW G d mc ms y cc nL ret own kc kn pc L (.long b :: .long a :: st) z v Q := by
  intro z0 v0 ρ0 sz p e s m args below meth c C ρ H locs ls g hP hD hS hl
  exact lv_ldiv C.1 C.2.1 hd h0 (k z0 v0 ρ0 sz p e s m args below meth c C ρ H locs ls g hP hD hS hl)
theorem AW_lrem {a b : Int64} (hd : decode cc pc = .ok (.lrem, 1)) (h0 : ¬ b = 0) (k : AW G d mc ms y cc nL ret own kc kn (pc + 1) L (.long (a - a / b * b) :: st) z v Q) : AW G d mc ms y cc nL ret own kc kn pc L (.long b :: .long a :: st) z v Q := by
  intro z0 v0 ρ0 sz p e s m args below meth c C ρ H locs ls g hP hD hS hl
  exact lv_lrem C.1 C.2.1 hd h0 (k z0 v0 ρ0 sz p e s m args below meth c C ρ H locs ls g hP hD hS hl)
theorem AW_iushr {a b : Int32} (hd : decode cc pc = .ok (.iushr, 1)) (k : AW G d mc ms y cc nL ret own kc kn (pc + 1) L (.int ((a.toUInt32 >>> (b.toUInt32 &&& Int32.toUInt32 31)).toInt32) :: st) z v Q) : AW G d mc ms y cc nL ret own kc kn pc L (.int b :: .int a :: st) z v Q := by
  intro z0 v0 ρ0 sz p e s m args below meth c C ρ H locs ls g hP hD hS hl
  exact lv_iushr C.1 C.2.1 hd rfl (k z0 v0 ρ0 sz p e s m args below meth c C ρ H locs ls g hP hD hS hl)
theorem AW_lcmp {a b : Int64} (hd : decode cc pc = .ok (.lcmp, 1)) (k : AW G d mc ms y cc nL ret own kc kn (pc + 1) L (.int (lg_cmp a b) :: st) z v Q) : AW G d mc ms y cc nL ret own kc kn pc L (.long b :: .long a :: st) z v Q := by
  intro z0 v0 ρ0 sz p e s m args below meth c C ρ H locs ls g hP hD hS hl
  exact W.lcmp C.1 C.2.1 hd (k z0 v0 ρ0 sz p e s m args below meth c C ρ H locs ls g hP hD hS hl)
theorem AW_ineg {a : Int32} (hd : decode cc pc = .ok (.ineg, 1)) (k : AW G d mc ms y cc nL ret own kc kn (pc + 1) L (.int (-a) :: st) z v Q) : AW G d mc ms y cc nL ret own kc kn pc L (.int a :: st) z v Q := by
  intro z0 v0 ρ0 sz p e s m args below meth c C ρ H locs ls g hP hD hS hl
  exact lv_ineg C.1 C.2.1 hd (k z0 v0 ρ0 sz p e s m args below meth c C ρ H locs ls g hP hD hS hl)
theorem AW_i2l {a : Int32} (hd : decode cc pc = .ok (.i2l, 1)) (k : AW G d mc ms y cc nL ret own kc kn (pc + 1) L (.long a.toInt64 :: st) z v Q) : AW G d mc ms y cc nL ret own kc kn pc L (.int a :: st) z v Q := by
  intro z0 v0 ρ0 sz p e s m args below meth c C ρ H locs ls g hP hD hS hl
  exact lv_i2l C.1 C.2.1 hd rfl (k z0 v0 ρ0 sz p e s m args below meth c C ρ H locs ls g hP hD hS hl)
theorem AW_l2i {a : Int64} (hd : decode cc pc = .ok (.l2i, 1)) (k : AW G d mc ms y cc nL ret own kc kn (pc + 1) L (.int a.toInt32 :: st) z v Q) : AW G d mc ms y cc nL ret own kc kn pc L (.long a :: st) z v Q := by
  intro z0 v0 ρ0 sz p e s m args below meth c C ρ H locs ls g hP hD hS hl
  exact lv_l2i C.1 C.2.1 hd rfl (k z0 v0 ρ0 sz p e s m args below meth c C ρ H locs ls g hP hD hS hl)
theorem AW_i2b {a : Int32} (hd : decode cc pc = .ok (.i2b, 1)) (k : AW G d mc ms y cc nL ret own kc kn (pc + 1) L (.int a.toInt8.toInt32 :: st) z v Q) : AW G d mc ms y cc nL ret own kc kn pc L (.int a :: st) z v Q := by
  intro z0 v0 ρ0 sz p e s m args below meth c C ρ H locs ls g hP hD hS hl
  exact lv_i2b C.1 C.2.1 hd rfl (k z0 v0 ρ0 sz p e s m args below meth c C ρ H locs ls g hP hD hS hl)
theorem AW_dup {a : Value} (hd : decode cc pc = .ok (.dup, 1)) (ha : a.category = 1) (k : AW G d mc ms y cc nL ret own kc kn (pc + 1) L (a :: a :: st) z v Q) : AW G d mc ms y cc nL ret own kc kn pc L (a :: st) z v Q := by
  intro z0 v0 ρ0 sz p e s m args below meth c C ρ H locs ls g hP hD hS hl
  exact lv_dup C.1 C.2.1 hd ((xtr_cat ρ a).trans ha) (k z0 v0 ρ0 sz p e s m args below meth c C ρ H locs ls g hP hD hS hl)
theorem AW_dup2 {a b : Value} (hd : decode cc pc = .ok (.dup2, 1)) (ha : a.category = 1) (hb : b.category = 1) (k : AW G d mc ms y cc nL ret own kc kn (pc + 1) L (a :: b :: a :: b :: st) z v Q) : AW G d mc ms y cc nL ret own kc kn pc L (a :: b :: st) z v Q := by
  intro z0 v0 ρ0 sz p e s m args below meth c C ρ H locs ls g hP hD hS hl
  exact lv_dup2_11 C.1 C.2.1 hd ((xtr_cat ρ a).trans ha) ((xtr_cat ρ b).trans hb) (k z0 v0 ρ0 sz p e s m args below meth c C ρ H locs ls g hP hD hS hl)
theorem AW_pop {a : Value} (hd : decode cc pc = .ok (.pop, 1)) (ha : a.category = 1) (k : AW G d mc ms y cc nL ret own kc kn (pc + 1) L st z v Q) : AW G d mc ms y cc nL ret own kc kn pc L (a :: st) z v Q := by
  intro z0 v0 ρ0 sz p e s m args below meth c C ρ H locs ls g hP hD hS hl
  exact lv_pop C.1 C.2.1 hd ((xtr_cat ρ a).trans ha) (k z0 v0 ρ0 sz p e s m args below meth c C ρ H locs ls g hP hD hS hl)
theorem AW_icmp_eq {a b : Int32} {off : Int} {tgt : Nat} (hd : decode cc pc = .ok (.if_icmp .eq off, 3)) (ht : (pc : Int) + off = (tgt : Int)) (kt : a = b → AW G d mc ms y cc nL ret own kc kn tgt L st z v Q) (kf : ¬ a = b → AW G d mc ms y cc nL ret own kc kn (pc + 3) L st z v Q) : AW G d mc ms y cc nL ret own kc kn pc L (.int b :: .int a :: st) z v Q := by
  intro z0 v0 ρ0 sz p e s m args below meth c C ρ H locs ls g hP hD hS hl
  exact lv_icmp_eq C.1 C.2.1 hd ht (fun q => (kt q z0 v0 ρ0 sz p e s m args below meth c C ρ H locs ls g hP hD hS hl)) (fun q => (kf q z0 v0 ρ0 sz p e s m args below meth c C ρ H locs ls g hP hD hS hl))
theorem AW_if_eq {a : Int32} {off : Int} {tgt : Nat} (hd : decode cc pc = .ok (.ifCond .eq off, 3)) (ht : (pc : Int) + off = (tgt : Int)) (kt : a = 0 → AW G d mc ms y cc nL ret own kc kn tgt L st z v Q) (kf : ¬ a = 0 → AW G d mc ms y cc nL ret own kc kn (pc + 3) L st z v Q) : AW G d mc ms y cc nL ret own kc kn pc L (.int a :: st) z v Q := by
  intro z0 v0 ρ0 sz p e s m args below meth c C ρ H locs ls g hP hD hS hl
  exact lv_if_eq C.1 C.2.1 hd ht (fun q => (kt q z0 v0 ρ0 sz p e s m args below meth c C ρ H locs ls g hP hD hS hl)) (fun q => (kf q z0 v0 ρ0 sz p e s m args below meth c C ρ H locs ls g hP hD hS hl))
theorem AW_icmp_ne {a b : Int32} {off : Int} {tgt : Nat} (hd : decode cc pc = .ok (.if_icmp .ne off, 3)) (ht : (pc : Int) + off = (tgt : Int)) (kt : ¬ a = b → AW G d mc ms y cc nL ret own kc kn tgt L st z v Q) (kf : a = b → AW G d mc ms y cc nL ret own kc kn (pc + 3) L st z v Q) : AW G d mc ms y cc nL ret own kc kn pc L (.int b :: .int a :: st) z v Q := by
  intro z0 v0 ρ0 sz p e s m args below meth c C ρ H locs ls g hP hD hS hl
  exact lv_icmp_ne C.1 C.2.1 hd ht (fun q => (kt q z0 v0 ρ0 sz p e s m args below meth c C ρ H locs ls g hP hD hS hl)) (fun q => (kf q z0 v0 ρ0 sz p e s m args below meth c C ρ H locs ls g hP hD hS hl))
theorem AW_if_ne {a : Int32} {off : Int} {tgt : Nat} (hd : decode cc pc = .ok (.ifCond .ne off, 3)) (ht : (pc : Int) + off = (tgt : Int)) (kt : ¬ a = 0 → AW G d mc ms y cc nL ret own kc kn tgt L st z v Q) (kf : a = 0 → AW G d mc ms y cc nL ret own kc kn (pc + 3) L st z v Q) : AW G d mc ms y cc nL ret own kc kn pc L (.int a :: st) z v Q := by
  intro z0 v0 ρ0 sz p e s m args below meth c C ρ H locs ls g hP hD hS hl
  exact lv_if_ne C.1 C.2.1 hd ht (fun q => (kt q z0 v0 ρ0 sz p e s m args below meth c C ρ H locs ls g hP hD hS hl)) (fun q => (kf q z0 v0 ρ0 sz p e s m args below meth c C ρ H locs ls g hP hD hS hl))
theorem AW_icmp_lt {a b : Int32} {off : Int} {tgt : Nat} (hd : decode cc pc = .ok (.if_icmp .lt off, 3)) (ht : (pc : Int) + off = (tgt : Int)) (kt : a < b → AW G d mc ms y cc nL ret own kc kn tgt L st z v Q) (kf : ¬ a < b → AW G d mc ms y cc nL ret own kc kn (pc + 3) L st z v Q) : AW G d mc ms y cc nL ret own kc kn pc L (.int b :: .int a :: st) z v Q := by
  intro z0 v0 ρ0 sz p e s m args below meth c C ρ H locs ls g hP hD hS hl
  exact lv_icmp_lt C.1 C.2.1 hd ht (fun q => (kt q z0 v0 ρ0 sz p e s m args below meth c C ρ H locs ls g hP hD hS hl)) (fun q => (kf q z0 v0 ρ0 sz p e s m args below meth c C ρ H locs ls g hP hD hS hl))
theorem AW_if_lt {a : Int32} {off : Int} {tgt : Nat} (hd : decode cc pc = .ok (.ifCond .lt off, 3)) (ht : (pc : Int) + off = (tgt : Int)) (kt : a < 0 → AW G d mc ms y cc nL ret own kc kn tgt L st z v Q) (kf : ¬ a < 0 → AW G d mc ms y cc nL ret own kc kn (pc + 3) L st z v Q) : AW G d mc ms y cc nL ret own kc kn pc L (.int a :: st) z v Q := by
  intro z0 v0 ρ0 sz p e s m args below meth c C ρ H locs ls g hP hD hS hl
  exact lv_if_lt C.1 C.2.1 hd ht (fun q => (kt q z0 v0 ρ0 sz p e s m args below meth c C ρ H locs ls g hP hD hS hl)) (fun q => (kf q z0 v0 ρ0 sz p e s m args below meth c C ρ H locs ls g hP hD hS hl))
theorem AW_icmp_ge {a b : Int32} {off : Int} {tgt : Nat} (hd : decode cc pc = .ok (.if_icmp .ge off, 3)) (ht : (pc : Int) + off = (tgt : Int)) (kt : b ≤ a → AW G d mc ms y cc nL ret own kc kn tgt L st z v Q) (kf : ¬ b ≤ a → AW G d mc ms y cc nL ret own kc kn (pc + 3) L st z v Q) : AW G d mc ms y cc nL ret own kc kn pc L (.int b :: .int a :: st) z v Q := by
  intro z0 v0 ρ0 sz p e s m args below meth c C ρ H locs ls g hP hD hS hl
  exact lv_icmp_ge C.1 C.2.1 hd ht (fun q => (kt q z0 v0 ρ0 sz p e s m args below meth c C ρ H locs ls g hP hD hS hl)) (fun q => (kf q z0 v0 ρ0 sz p e s m args below meth c C ρ H locs ls g hP hD hS hl))
theorem AW_if_ge {a : Int32} {off : Int} {tgt : Nat} (hd : decode cc pc = .ok (.ifCond .ge off, 3)) (ht : (pc : Int) + off = (tgt : Int)) (kt : 0 ≤ a → AW G d mc ms y cc nL ret own kc kn tgt L st z v Q) (kf : ¬ 0 ≤ a → AW G d mc ms y cc nL ret own kc kn (pc + 3) L st z v Q) : AW G d mc ms y cc nL ret own kc kn pc L (.int a :: st) z v Q := by
  intro z0 v0 ρ0 sz p e s m args below meth c C ρ H locs ls g hP hD hS hl
  exact lv_if_ge C.1 C.2.1 hd ht (fun q => (kt q z0 v0 ρ0 sz p e s m args below meth c C ρ H locs ls g hP hD hS hl)) (fun q => (kf q z0 v0 ρ0 sz p e s m args below meth c C ρ H locs ls g hP hD hS hl))
theorem AW_icmp_gt {a b : Int32} {off : Int} {tgt : Nat} (hd : decode cc pc = .ok (.if_icmp .gt off, 3)) (ht : (pc : Int) + off = (tgt : Int)) (kt : b < a → AW G d mc ms y cc nL ret own kc kn tgt L st z v Q) (kf : ¬ b < a → AW G d mc ms y cc nL ret own kc kn (pc + 3) L st z v Q) : AW G d mc ms y cc nL ret own kc kn pc L (.int b :: .int a :: st) z v Q := by
  intro z0 v0 ρ0 sz p e s m args below meth c C ρ H locs ls g hP hD hS hl
  exact lv_icmp_gt C.1 C.2.1 hd ht (fun q => (kt q z0 v0 ρ0 sz p e s m args below meth c C ρ H locs ls g hP hD hS hl)) (fun q => (kf q z0 v0 ρ0 sz p e s m args below meth c C ρ H locs ls g hP hD hS hl))
theorem AW_if_gt {a : Int32} {off : Int} {tgt : Nat} (hd : decode cc pc = .ok (.ifCond .gt off, 3)) (ht : (pc : Int) + off = (tgt : Int)) (kt : 0 < a → AW G d mc ms y cc nL ret own kc kn tgt L st z v Q) (kf : ¬ 0 < a → AW G d mc ms y cc nL ret own kc kn (pc + 3) L st z v Q) : AW G d mc ms y cc nL ret own kc kn pc L (.int a :: st) z v Q := by
  intro z0 v0 ρ0 sz p e s m args below meth c C ρ H locs ls g hP hD hS hl
  exact lv_if_gt C.1 C.2.1 hd ht (fun q => (kt q z0 v0 ρ0 sz p e s m args below meth c C ρ H locs ls g hP hD hS hl)) (fun q => (kf q z0 v0 ρ0 sz p e s m args below meth c C ρ H locs ls g hP hD hS hl))
theorem AW_icmp_le {a b : Int32} {off : Int} {tgt : Nat} (hd : decode cc pc = .ok (.if_icmp .le off, 3)) (ht : (pc : Int) + off = (tgt : Int)) (kt : a ≤ b → AW G d mc ms y cc nL ret own kc kn tgt L st z v Q) (kf : ¬ a ≤ b → AW G d mc ms y cc nL ret own kc kn (pc + 3) L st z v Q) : AW G d mc ms y cc nL ret own kc kn pc L (.int b :: .int a :: st) z v Q := by
  intro z0 v0 ρ0 sz p e s m args below meth c C ρ H locs ls g hP hD hS hl
  exact lv_icmp_le C.1 C.2.1 hd ht (fun q => (kt q z0 v0 ρ0 sz p e s m args below meth c C ρ H locs ls g hP hD hS hl)) (fun q => (kf q z0 v0 ρ0 sz p e s m args below meth c C ρ H locs ls g hP hD hS hl))
theorem AW_if_le {a : Int32} {off : Int} {tgt : Nat} (hd : decode cc pc = .ok (.ifCond .le off, 3)) (ht : (pc : Int) + off = (tgt : Int)) (kt : a ≤ 0 → AW G d mc ms y cc nL ret own kc kn tgt L st z v Q) (kf : ¬ a ≤ 0 → AW G d mc ms y cc nL ret own kc kn (pc + 3) L st z v Q) : AW G d mc ms y cc nL ret own kc kn pc L (.int a :: st) z v Q := by
  intro z0 v0 ρ0 sz p e s m args below meth c C ρ H locs ls g hP hD hS hl
  exact lv_if_le C.1 C.2.1 hd ht (fun q => (kt q z0 v0 ρ0 sz p e s m args below meth c C ρ H locs ls g hP hD hS hl)) (fun q => (kf q z0 v0 ρ0 sz p e s m args below meth c C ρ H locs ls g hP hD hS hl))
theorem AW_goto {off : Int} {tgt : Nat} (hd : decode cc pc = .ok (.goto off, 3)) (ht : (pc : Int) + off = (tgt : Int)) (k : AW G d mc ms y cc nL ret own kc kn tgt L st z v Q) : AW G d mc ms y cc nL ret own kc kn pc L st z v Q := by
  intro z0 v0 ρ0 sz p e s m args below meth c C ρ H locs ls g hP hD hS hl
  exact lv_goto C.1 C.2.1 hd ht (k z0 v0 ρ0 sz p e s m args below meth c C ρ H locs ls g hP hD hS hl)
theorem AW_ifnonnull {a : Nat} {off : Int} {tgt : Nat} (hd : decode cc pc = .ok (.ifnonnull off, 3)) (ht : (pc : Int) + off = (tgt : Int)) (k : AW G d mc ms y cc nL ret own kc kn tgt L st z v Q) : AW G d mc ms y cc nL ret own kc kn pc L (.ref a :: st) z v Q := by
  intro z0 v0 ρ0 sz p e s m args below meth c C ρ H locs ls g hP hD hS hl
  exact lv_ifnonnull C.1 C.2.1 hd ht (k z0 v0 ρ0 sz p e s m args below meth c C ρ H locs ls g hP hD hS hl)
theorem AW_ifnonnullN {off : Int} (hd : decode cc pc = .ok (.ifnonnull off, 3)) (k : AW G d mc ms y cc nL ret own kc kn (pc + 3) L st z v Q) : AW G d mc ms y cc nL ret own kc kn pc L (.null :: st) z v Q := by
  intro z0 v0 ρ0 sz p e s m args below meth c C ρ H locs ls g hP hD hS hl
  exact lv_ifnonnullN C.1 C.2.1 hd (k z0 v0 ρ0 sz p e s m args below meth c C ρ H locs ls g hP hD hS hl)
theorem AW_tableIn {dflt lo hi : Int} {offs : Array Int} {len : Nat} {x : Int32} {off : Int} {tgt : Nat} (hd : decode cc pc = .ok (.tableswitch dflt lo hi offs, len)) (h1 : ¬ x.toInt < lo) (h2 : ¬ hi < x.toInt) (ho : offs[(x.toInt - lo).toNat]? = some off) (ht : (pc : Int) + off = (tgt : Int)) (k : AW G d mc ms y cc nL ret own kc kn tgt L st z v Q) : AW G d mc ms y cc nL ret own kc kn pc L (.int x :: st) z v Q := by
  intro z0 v0 ρ0 sz p e s m args below meth c C ρ H locs ls g hP hD hS hl
  exact lv_tableIn C.1 C.2.1 hd h1 h2 ho ht (k z0 v0 ρ0 sz p e s m args below meth c C ρ H locs ls g hP hD hS hl)
theorem AW_tableOut {dflt lo hi : Int} {offs : Array Int} {len : Nat} {x : Int32} {tgt : Nat} (hd : decode cc pc = .ok (.tableswitch dflt lo hi offs, len)) (h : x.toInt < lo ∨ hi < x.toInt) (ht : (pc : Int) + dflt = (tgt : Int)) (k : AW G d mc ms y cc nL ret own kc kn tgt L st z v Q) : AW G d mc ms y cc nL ret own kc kn pc L (.int x :: st) z v Q := by
  intro z0 v0 ρ0 sz p e s m args below meth c C ρ H locs ls g hP hD hS hl
  exact lv_tableOut C.1 C.2.1 hd h ht (k z0 v0 ρ0 sz p e s m args below meth c C ρ H locs ls g hP hD hS hl)
theorem AW_istore_n {j : Fin 4} {i : Nat} {x : Int32} {L' : List (Option Value)} (hd : decode cc pc = .ok (.istore_n j, 1)) (hi : (j : Nat) = i) (hn : i < nL) (hL : xs1 L i (.int x) = L') (k : AW G d mc ms y cc nL ret own kc kn (pc + 1) L' st z v Q) : AW G d mc ms y cc nL ret own kc kn pc L (.int x :: st) z v Q := by
  intro z0 v0 ρ0 sz p e s m args below meth c C ρ H locs ls g hP hD hS hl
  subst hL
  exact lv_istore_n C.1 C.2.1 hd hi hl hn rfl (fun ls' hl' => (k z0 v0 ρ0 sz p e s m args below meth c C ρ H locs ls' g hP hD hS (xLH.of1 (v := .int x) hl')))
theorem AW_istore {i : Nat} {x : Int32} {L' : List (Option Value)} (hd : decode cc pc = .ok (.istore i, 2)) (hn : i < nL) (hL : xs1 L i (.int x) = L') (k : AW G d mc ms y cc nL ret own kc kn (pc + 2) L' st z v Q) : AW G d mc ms y cc nL ret own kc kn pc L (.int x :: st) z v Q := by
  intro z0 v0 ρ0 sz p e s m args below meth c C ρ H locs ls g hP hD hS hl
  subst hL
  exact lv_istore C.1 C.2.1 hd hl hn rfl (fun ls' hl' => (k z0 v0 ρ0 sz p e s m args below meth c C ρ H locs ls' g hP hD hS (xLH.of1 (v := .int x) hl')))
theorem AW_astore_n {j : Fin 4} {i : Nat} {x : Nat} {L' : List (Option Value)} (hd : decode cc pc = .ok (.astore_n j, 1)) (hi : (j : Nat) = i) (hn : i < nL) (hL : xs1 L i (.ref x) = L') (k : AW G d mc ms y cc nL ret own kc kn (pc + 1) L' st z v Q) : AW G d mc ms y cc nL ret own kc kn pc L (.ref x :: st) z v Q := by
  intro z0 v0 ρ0 sz p e s m args below meth c C ρ H locs ls g hP hD hS hl
  subst hL
  exact lv_astore_n C.1 C.2.1 hd hi hl hn rfl (fun ls' hl' => (k z0 v0 ρ0 sz p e s m args below meth c C ρ H locs ls' g hP hD hS (xLH.of1 (v := .ref x) hl')))
theorem AW_astore {i : Nat} {x : Nat} {L' : List (Option Value)} (hd : decode cc pc = .ok (.astore i, 2)) (hn : i < nL) (hL : xs1 L i (.ref x) = L') (k : AW G d mc ms y cc nL ret own kc kn (pc + 2) L' st z v Q) : AW G d mc ms y cc nL ret own kc kn pc L (.ref x :: st) z v Q := by
  intro z0 v0 ρ0 sz p e s m args below meth c C ρ H locs ls g hP hD hS hl
  subst hL
  exact lv_astore C.1 C.2.1 hd hl hn rfl (fun ls' hl' => (k z0 v0 ρ0 sz p e s m args below meth c C ρ H locs ls' g hP hD hS (xLH.of1 (v := .ref x) hl')))
theorem AW_lstore_n {j : Fin 4} {i : Nat} {x : Int64} {L' : List (Option Value)} (hd : decode cc pc = .ok (.lstore_n j, 1)) (hi : (j : Nat) = i) (hn : i + 1 < nL) (hL : xs2 L i (.long x) = L') (k : AW G d mc ms y cc nL ret own kc kn (pc + 1) L' st z v Q) : AW G d mc ms y cc nL ret own kc kn pc L (.long x :: st) z v Q := by
  intro z0 v0 ρ0 sz p e s m args below meth c C ρ H locs ls g hP hD hS hl
  subst hL
  exact lv_lstore_n C.1 C.2.1 hd hi hl hn rfl (fun ls' hl' => (k z0 v0 ρ0 sz p e s m args below meth c C ρ H locs ls' g hP hD hS (xLH.of2 (v := .long x) hl')))
theorem AW_lstore {i : Nat} {x : Int64} {L' : List (Option Value)} (hd : decode cc pc = .ok (.lstore i, 2)) (hn : i + 1 < nL) (hL : xs2 L i (.long x) = L') (k : AW G d mc ms y cc nL ret own kc kn (pc + 2) L' st z v Q) : AW G d mc ms y cc nL ret own kc kn pc L (.long x :: st) z v Q := by
  intro z0 v0 ρ0 sz p e s m args below meth c C ρ H locs ls g hP hD hS hl
  subst hL
  exact lv_lstore C.1 C.2.1 hd hl hn rfl (fun ls' hl' => (k z0 v0 ρ0 sz p e s m args below meth c C ρ H locs ls' g hP hD hS (xLH.of2 (v := .long x) hl')))
theorem AW_iinc {i : Nat} {n : Int} {x x' : Int32} {L' : List (Option Value)} (hd : decode cc pc = .ok (.iinc i n, 3)) (hi : L[i]? = some (some (.int x))) (hv : x + Int32.ofInt n = x') (hn : i < nL) (hL : xs1 L i (.int x') = L') (k : AW G d mc ms y cc nL ret own kc kn (pc + 3) L' st z v Q) : AW G d mc ms y cc nL ret own kc kn pc L st z v Q := by
  intro z0 v0 ρ0 sz p e s m args below meth c C ρ H locs ls g hP hD hS hl
  subst hL
  obtain ⟨q, hq⟩ := List.getElem?_of_mem ((xprs_mem (ρ := ρ) L 0 (i, .int x)).mpr ⟨i, .int x, hi, by simp [xtr]⟩)
  exact lv_iinc C.1 C.2.1 hd hl hq hv hn rfl (fun ls' hl' => (k z0 v0 ρ0 sz p e s m args below meth c C ρ H locs ls' g hP hD hS (xLH.of1 (v := .int x') hl')))
end AWR
